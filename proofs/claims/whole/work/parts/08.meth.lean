def qPlaces : List (Nat × Nat) := [(262, 71), (491, 71), (545, 71), (452, 71), (195, 69), (564, 69), (578, 69), (588, 69), (594, 69), (603, 69), (612, 69), (621, 69), (625, 69), (630, 69), (635, 69), (640, 69), (644, 69), (652, 69), (656, 69), (660, 69), (665, 69), (669, 69), (677, 69), (699, 69), (692, 69), (696, 69), (681, 69), (685, 69), (707, 69), (711, 69), (714, 69), (730, 69), (742, 69), (746, 69), (749, 69), (758, 69), (768, 69), (284, 72), (790, 72), (782, 72), (794, 72), (806, 72), (810, 72), (814, 72), (92, 67), (332, 67), (340, 67), (344, 67), (410, 67), (414, 67), (419, 67), (423, 67), (428, 67), (441, 67), (432, 67), (357, 67), (348, 67), (352, 67), (98, 68), (445, 68), (461, 68), (469, 68), (436, 68), (509, 68), (524, 68), (516, 68), (500, 68), (496, 68), (734, 68), (856, 68), (203, 70), (504, 70), (839, 70), (689, 70), (84, 66), (328, 66), (336, 66), (457, 66), (465, 66), (473, 66), (478, 66), (487, 66), (520, 66), (533, 66), (537, 66), (541, 66), (549, 66), (553, 66), (557, 66), (569, 66), (574, 66), (584, 66), (599, 66), (608, 66), (617, 66), (648, 66), (673, 66), (703, 66), (726, 66), (738, 66), (753, 66), (772, 66), (786, 66), (798, 66), (818, 66), (823, 66), (831, 66), (843, 66), (847, 66), (851, 66), (560, 66), (775, 66), (778, 66), (481, 66), (827, 66), (802, 66), (835, 66), (861, 73), (949, 73), (1205, 73), (1005, 73), (1040, 73), (1013, 73), (1021, 73), (946, 73), (969, 73), (965, 73), (980, 73), (987, 73), (998, 73), (961, 73), (977, 73), (973, 73), (991, 73), (1002, 73), (995, 73), (984, 73), (957, 73), (953, 73), (1009, 73), (1017, 73), (1028, 73), (1025, 73), (1032, 73), (1065, 73), (1062, 73), (1059, 73), (1056, 73), (1052, 73), (1048, 73), (1044, 73), (1036, 73), (1075, 73), (1072, 73), (1069, 73), (1079, 73), (1083, 73), (1087, 73), (1091, 73), (1095, 73), (1111, 73), (1107, 73), (1103, 73), (1099, 73), (1115, 73), (1119, 73), (1123, 73), (1131, 73), (1127, 73), (1135, 73), (1148, 73), (1143, 73), (1139, 73), (1160, 73), (1156, 73), (1152, 73), (1168, 73), (1172, 73), (1164, 73), (1179, 73), (1187, 73), (1191, 73), (1183, 73), (1176, 73), (1198, 73), (1195, 73), (1202, 73), (1209, 73), (1222, 73), (1238, 73), (1235, 73), (1219, 73), (1226, 73), (1230, 73), (1242, 73), (1246, 73), (1254, 73), (1262, 73), (1258, 73), (1250, 73), (1266, 73), (1270, 73), (1274, 73), (361, 74), (371, 74), (365, 74), (375, 74), (381, 74), (378, 75), (386, 76), (0, 65)]
def qLaw : Nat := 210
def qMtOk (q : qMt × (Nat × Nat)) : Bool := qHas q.2.1 (.code q.1.1 q.1.2.1 q.1.2.2.1 q.1.2.2.2.1) && qHas q.2.2 (.initialized q.1.1.cls) && decide (q.1.1.cls = qRn q.1.2.2.2.2) && plainName q.1.1.cls && decide (q.1.1.cls ≠ "java/lang/invoke/MethodHandle") && decide (q.1.1.cls ≠ "java/lang/invoke/VarHandle") && decide (q.1.2.2.1 ≤ 40)
theorem qMtOk_0 : (((qMtL.zip qPlaces).drop 0).take 10).all qMtOk = true := by decide +kernel
theorem qMtOk_1 : (((qMtL.zip qPlaces).drop 10).take 10).all qMtOk = true := by decide +kernel
theorem qMtOk_2 : (((qMtL.zip qPlaces).drop 20).take 10).all qMtOk = true := by decide +kernel
theorem qMtOk_3 : (((qMtL.zip qPlaces).drop 30).take 10).all qMtOk = true := by decide +kernel
theorem qMtOk_4 : (((qMtL.zip qPlaces).drop 40).take 10).all qMtOk = true := by decide +kernel
theorem qMtOk_5 : (((qMtL.zip qPlaces).drop 50).take 10).all qMtOk = true := by decide +kernel
theorem qMtOk_6 : (((qMtL.zip qPlaces).drop 60).take 10).all qMtOk = true := by decide +kernel
theorem qMtOk_7 : (((qMtL.zip qPlaces).drop 70).take 10).all qMtOk = true := by decide +kernel
theorem qMtOk_8 : (((qMtL.zip qPlaces).drop 80).take 10).all qMtOk = true := by decide +kernel
theorem qMtOk_9 : (((qMtL.zip qPlaces).drop 90).take 10).all qMtOk = true := by decide +kernel
theorem qMtOk_10 : (((qMtL.zip qPlaces).drop 100).take 10).all qMtOk = true := by decide +kernel
theorem qMtOk_11 : (((qMtL.zip qPlaces).drop 110).take 10).all qMtOk = true := by decide +kernel
theorem qMtOk_12 : (((qMtL.zip qPlaces).drop 120).take 10).all qMtOk = true := by decide +kernel
theorem qMtOk_13 : (((qMtL.zip qPlaces).drop 130).take 10).all qMtOk = true := by decide +kernel
theorem qMtOk_14 : (((qMtL.zip qPlaces).drop 140).take 10).all qMtOk = true := by decide +kernel
theorem qMtOk_15 : (((qMtL.zip qPlaces).drop 150).take 10).all qMtOk = true := by decide +kernel
theorem qMtOk_16 : (((qMtL.zip qPlaces).drop 160).take 10).all qMtOk = true := by decide +kernel
theorem qMtOk_17 : (((qMtL.zip qPlaces).drop 170).take 10).all qMtOk = true := by decide +kernel
theorem qMtOk_18 : (((qMtL.zip qPlaces).drop 180).take 10).all qMtOk = true := by decide +kernel
theorem qMtOk_19 : (((qMtL.zip qPlaces).drop 190).take 10).all qMtOk = true := by decide +kernel
theorem qMtOk_20 : (((qMtL.zip qPlaces).drop 200).take 10).all qMtOk = true := by decide +kernel
