/-! the listings are what decode reads off the bytes; the methods are the Statement's -/
def qLenI : Instr → Nat
  | .bipush _ => 2
  | .sipush _ => 3
  | .ldc _ => 2
  | .ldc2_w _ => 3
  | .iload _ => 2
  | .lload _ => 2
  | .aload _ => 2
  | .istore _ => 2
  | .lstore _ => 2
  | .astore _ => 2
  | .iinc _ _ => 3
  | .getfield _ => 3
  | .putfield _ => 3
  | .getstatic _ => 3
  | .goto _ => 3
  | .ifCond _ _ => 3
  | .if_icmp _ _ => 3
  | .new _ => 3
  | .newarray _ => 2
  | .anewarray _ => 3
  | .invokestatic _ => 3
  | .invokevirtual _ => 3
  | .invokespecial _ => 3
  | _ => 1
def qTab : Instr → Bool
  | .tableswitch _ _ _ _ => true
  | _ => false
def qInsOk (b : ByteArray) (q : Nat × Instr) : Bool := match decode b q.1 with
  | .ok (j, len) => decide (j = q.2) && (len == qLenI q.2 || qTab q.2)
  | _ => false
theorem qLi_0 : li_0.all (qInsOk cX0_init) = true := by decide +kernel
theorem qLi_1 : li_1.all (qInsOk cX0_keep) = true := by decide +kernel
theorem qLi_2 : li_2.all (qInsOk cX0_takeBack) = true := by decide +kernel
theorem qLi_3 : li_3.all (qInsOk cX0_forget) = true := by decide +kernel
theorem qLi_4 : li_4.all (qInsOk cX1_init) = true := by decide +kernel
theorem qLi_5 : li_5.all (qInsOk cX1_endOf) = true := by decide +kernel
theorem qLi_6 : li_6.all (qInsOk cX1_cellBehind) = true := by decide +kernel
theorem qLi_7 : li_7.all (qInsOk cX1_barredNow) = true := by decide +kernel
theorem qLi_8 : li_8.all (qInsOk cX1_isTaken) = true := by decide +kernel
theorem qLi_9 : li_9.all (qInsOk cX1_sentence) = true := by decide +kernel
theorem qLi_10 : li_10.all (qInsOk cX1_sidesTo) = true := by decide +kernel
theorem qLi_11 : li_11.all (qInsOk cX1_leastCrime) = true := by decide +kernel
theorem qLi_12 : li_12.all (qInsOk cX1_findLandings) = true := by decide +kernel
theorem qLi_13 : li_13.all (qInsOk cX1_landing) = true := by decide +kernel
theorem qLi_14 : li_14.all (qInsOk cX1_findTolls) = true := by decide +kernel
theorem qLi_15 : li_15.all (qInsOk cX1_tollBy) = true := by decide +kernel
theorem qLi_16 : li_16.all (qInsOk cX1_firstWalk) = true := by decide +kernel
theorem qLi_17 : li_17.all (qInsOk cX1_bestOrder) = true := by decide +kernel
theorem qLi_18 : li_18.all (qInsOk cX1_listDebtors) = true := by decide +kernel
theorem qLi_19 : li_19.all (qInsOk cX1_enteredInOrder) = true := by decide +kernel
theorem qLi_20 : li_20.all (qInsOk cX1_nextOrder) = true := by decide +kernel
theorem qLi_21 : li_21.all (qInsOk cX1_swap) = true := by decide +kernel
theorem qLi_22 : li_22.all (qInsOk cX1_fewestWalls) = true := by decide +kernel
theorem qLi_23 : li_23.all (qInsOk cX1_wallsTold) = true := by decide +kernel
theorem qLi_24 : li_24.all (qInsOk cX1_isIn) = true := by decide +kernel
theorem qLi_25 : li_25.all (qInsOk cX1_mayBeBuilt) = true := by decide +kernel
theorem qLi_26 : li_26.all (qInsOk cX1_troddenBehind) = true := by decide +kernel
theorem qLi_27 : li_27.all (qInsOk cX1_troddenInTrial) = true := by decide +kernel
theorem qLi_28 : li_28.all (qInsOk cX1_meeting) = true := by decide +kernel
theorem qLi_29 : li_29.all (qInsOk cX1_play) = true := by decide +kernel
theorem qLi_30 : li_30.all (qInsOk cX1_apart) = true := by decide +kernel
theorem qLi_31 : li_31.all (qInsOk cX1_underLaw) = true := by decide +kernel
theorem qLi_32 : li_32.all (qInsOk cX1_oddsOf) = true := by decide +kernel
theorem qLi_33 : li_33.all (qInsOk cX1_pardon) = true := by decide +kernel
theorem qLi_34 : li_34.all (qInsOk cX1_commonDivisor) = true := by decide +kernel
theorem qLi_35 : li_35.all (qInsOk cX1_years) = true := by decide +kernel
theorem qLi_36 : li_36.all (qInsOk cX1_unmoved) = true := by decide +kernel
theorem qLi_37 : li_37.all (qInsOk cX2_init) = true := by decide +kernel
theorem qLi_38 : li_38.all (qInsOk cX2_isNothing) = true := by decide +kernel
theorem qLi_39 : li_39.all (qInsOk cX2_renew) = true := by decide +kernel
theorem qLi_40 : li_40.all (qInsOk cX2_clear) = true := by decide +kernel
theorem qLi_41 : li_41.all (qInsOk cX2_holds) = true := by decide +kernel
theorem qLi_42 : li_42.all (qInsOk cX2_put) = true := by decide +kernel
theorem qLi_43 : li_43.all (qInsOk cX2_cut) = true := by decide +kernel
theorem qLi_44 : li_44.all (qInsOk cX3_init) = true := by decide +kernel
theorem qLi_45 : li_45.all (qInsOk cX3_add) = true := by decide +kernel
theorem qLi_46 : li_46.all (qInsOk cX3_readTown) = true := by decide +kernel
theorem qLi_47 : li_47.all (qInsOk cX3_readLaw) = true := by decide +kernel
theorem qLi_48 : li_48.all (qInsOk cX3_readRows) = true := by decide +kernel
theorem qLi_49 : li_49.all (qInsOk cX3_readRow) = true := by decide +kernel
theorem qLi_50 : li_50.all (qInsOk cX3_readPeople) = true := by decide +kernel
theorem qLi_51 : li_51.all (qInsOk cX3_readPerson) = true := by decide +kernel
theorem qLi_52 : li_52.all (qInsOk cX3_takeCell) = true := by decide +kernel
theorem qLi_53 : li_53.all (qInsOk cX3_takeOwes) = true := by decide +kernel
theorem qLi_54 : li_54.all (qInsOk cX3_takeFigure) = true := by decide +kernel
theorem qLi_55 : li_55.all (qInsOk cX3_takeOneOf) = true := by decide +kernel
theorem qLi_56 : li_56.all (qInsOk cX3_take) = true := by decide +kernel
theorem qLi_57 : li_57.all (qInsOk cX3_nextByte) = true := by decide +kernel
theorem qLi_58 : li_58.all (qInsOk cX4_init) = true := by decide +kernel
theorem qLi_59 : li_59.all (qInsOk cX4_become) = true := by decide +kernel
theorem qLi_60 : li_60.all (qInsOk cX4_has) = true := by decide +kernel
theorem qLi_61 : li_61.all (qInsOk cX4_inside) = true := by decide +kernel
theorem qLi_62 : li_62.all (qInsOk cX4_standing) = true := by decide +kernel
theorem qLi_63 : li_63.all (qInsOk cX4_beside) = true := by decide +kernel
theorem qLi_64 : li_64.all (qInsOk cX4_commit) = true := by decide +kernel
theorem qLi_65 : li_65.all (qInsOk cX4_follow) = true := by decide +kernel
theorem qLi_66 : li_66.all (qInsOk cX4_walkAtNoon) = true := by decide +kernel
theorem qLi_67 : li_67.all (qInsOk cX4_passNoon) = true := by decide +kernel
theorem qLi_68 : li_68.all (qInsOk cX4_owedInAll) = true := by decide +kernel
theorem qLi_69 : li_69.all (qInsOk cX4_enteredInAll) = true := by decide +kernel
theorem qLi_70 : li_70.all (qInsOk cX5_init) = true := by decide +kernel
theorem qLi_71 : li_71.all (qInsOk cX5_trace) = true := by decide +kernel
theorem qLi_72 : li_72.all (qInsOk cX5_leaves) = true := by decide +kernel
theorem qLi_73 : li_73.all (qInsOk cX5_trodden) = true := by decide +kernel
theorem qLi_74 : li_74.all (qInsOk cX6_init) = true := by decide +kernel
theorem qLi_75 : li_75.all (qInsOk cX6_feed) = true := by decide +kernel
theorem qLi_76 : li_76.all (qInsOk cX6_town) = true := by decide +kernel
theorem qLi_77 : li_77.all (qInsOk cX6_person) = true := by decide +kernel
theorem qLi_78 : li_78.all (qInsOk cX6_cell) = true := by decide +kernel
theorem qLi_79 : li_79.all (qInsOk cX6_on) = true := by decide +kernel
theorem qLi_80 : li_80.all (qInsOk cX6_as) = true := by decide +kernel
theorem qLi_81 : li_81.all (qInsOk cX6_noon) = true := by decide +kernel
theorem qLi_82 : li_82.all (qInsOk cX6_deed) = true := by decide +kernel
theorem qLi_83 : li_83.all (qInsOk cX6_look) = true := by decide +kernel
theorem qLi_84 : li_84.all (qInsOk cX6_build) = true := by decide +kernel
theorem qLi_85 : li_85.all (qInsOk cX6_undo) = true := by decide +kernel
theorem qLi_86 : li_86.all (qInsOk cX6_image) = true := by decide +kernel
theorem qLi_87 : li_87.all (qInsOk cX6_restore) = true := by decide +kernel
theorem qLi_88 : li_88.all (qInsOk cX6_ends) = true := by decide +kernel
theorem qLi_89 : li_89.all (qInsOk cX6_steps) = true := by decide +kernel
theorem qLi_90 : li_90.all (qInsOk cX6_later) = true := by decide +kernel
theorem qLi_91 : li_91.all (qInsOk cX6_barred) = true := by decide +kernel
theorem qLi_92 : li_92.all (qInsOk cX6_judge) = true := by decide +kernel
theorem qLi_93 : li_93.all (qInsOk cX6_sides) = true := by decide +kernel
theorem qLi_94 : li_94.all (qInsOk cX6_crime) = true := by decide +kernel
theorem qLi_95 : li_95.all (qInsOk cX6_order) = true := by decide +kernel
theorem qLi_96 : li_96.all (qInsOk cX6_guard) = true := by decide +kernel
theorem qLi_97 : li_97.all (qInsOk cX6_meet) = true := by decide +kernel
theorem qLi_98 : li_98.all (qInsOk cX6_law) = true := by decide +kernel
theorem qLi_99 : li_99.all (qInsOk cX6_odds) = true := by decide +kernel
theorem qLi_100 : li_100.all (qInsOk cX6_drawn) = true := by decide +kernel
theorem qLi_101 : li_101.all (qInsOk cX6_sheet) = true := by decide +kernel
theorem qLi_102 : li_102.all (qInsOk cX6_drop) = true := by decide +kernel
theorem qLi_103 : li_103.all (qInsOk cX6_item) = true := by decide +kernel
theorem qLi_104 : li_104.all (qInsOk cX6_copy) = true := by decide +kernel
theorem qLi_105 : li_105.all (qInsOk cX6_film) = true := by decide +kernel
theorem qLi_106 : li_106.all (qInsOk cX6_who) = true := by decide +kernel
theorem qLi_107 : li_107.all (qInsOk cX6_due) = true := by decide +kernel
theorem qLi_108 : li_108.all (qInsOk cX6_sorts) = true := by decide +kernel
theorem qLi_109 : li_109.all (qInsOk cX6_count) = true := by decide +kernel
theorem qLi_110 : li_110.all (qInsOk cX6_isOwable) = true := by decide +kernel
theorem qLi_111 : li_111.all (qInsOk cX6_isSheet) = true := by decide +kernel
theorem qLi_112 : li_112.all (qInsOk cX6_isLane) = true := by decide +kernel
theorem qLi_113 : li_113.all (qInsOk cX6_isUnder) = true := by decide +kernel
theorem qLi_114 : li_114.all (qInsOk cX6_refuseMarks) = true := by decide +kernel
theorem qLi_115 : li_115.all (qInsOk cX6_refuseSpan) = true := by decide +kernel
theorem qLi_116 : li_116.all (qInsOk cX6_leastDue) = true := by decide +kernel
theorem qLi_117 : li_117.all (qInsOk cX7_init) = true := by decide +kernel
theorem qLi_118 : li_118.all (qInsOk cX7_in) = true := by decide +kernel
theorem qLi_119 : li_119.all (qInsOk cX7_has) = true := by decide +kernel
theorem qLi_120 : li_120.all (qInsOk cX7_bring) = true := by decide +kernel
theorem qLi_121 : li_121.all (qInsOk cX7_isTown) = true := by decide +kernel
theorem qLi_122 : li_122.all (qInsOk cX7_isOne) = true := by decide +kernel
theorem qLi_123 : li_123.all (qInsOk cX7_isCell) = true := by decide +kernel
theorem qLi_124 : li_124.all (qInsOk cX7_feed) = true := by decide +kernel
theorem qLi_125 : li_125.all (qInsOk cX7_peek) = true := by decide +kernel
theorem qLi_126 : li_126.all (qInsOk cX7_isSign) = true := by decide +kernel
theorem qLi_127 : li_127.all (qInsOk cX7_groundBy) = true := by decide +kernel
theorem qLi_128 : li_128.all (qInsOk cX7_sortBy) = true := by decide +kernel
theorem qLi_129 : li_129.all (qInsOk cX7_sideBy) = true := by decide +kernel
theorem qLi_130 : li_130.all (qInsOk cX7_isLaw) = true := by decide +kernel
theorem qLi_131 : li_131.all (qInsOk cX7_isCellRow) = true := by decide +kernel
theorem qLi_132 : li_132.all (qInsOk cX7_areCells) = true := by decide +kernel
theorem qLi_133 : li_133.all (qInsOk cX7_figure) = true := by decide +kernel
theorem qLi_134 : li_134.all (qInsOk cX7_number) = true := by decide +kernel
theorem qLi_135 : li_135.all (qInsOk cX7_isFree) = true := by decide +kernel
theorem qLi_136 : li_136.all (qInsOk cX7_isPerson) = true := by decide +kernel
theorem qLi_137 : li_137.all (qInsOk cX7_isRead) = true := by decide +kernel
theorem qLi_138 : li_138.all (qInsOk cX7_town) = true := by decide +kernel
theorem qLi_139 : li_139.all (qInsOk cX7_person) = true := by decide +kernel
theorem qLi_140 : li_140.all (qInsOk cX7_cell) = true := by decide +kernel
theorem qLi_141 : li_141.all (qInsOk cX7_standsOn) = true := by decide +kernel
theorem qLi_142 : li_142.all (qInsOk cX7_on) = true := by decide +kernel
theorem qLi_143 : li_143.all (qInsOk cX7_as) = true := by decide +kernel
theorem qLi_144 : li_144.all (qInsOk cX7_costOf) = true := by decide +kernel
theorem qLi_145 : li_145.all (qInsOk cX7_beside) = true := by decide +kernel
theorem qLi_146 : li_146.all (qInsOk cX7_wayBy) = true := by decide +kernel
theorem qLi_147 : li_147.all (qInsOk cX7_walkBy) = true := by decide +kernel
theorem qLi_148 : li_148.all (qInsOk cX7_walkIn) = true := by decide +kernel
theorem qLi_149 : li_149.all (qInsOk cX7_noonIn) = true := by decide +kernel
theorem qLi_150 : li_150.all (qInsOk cX7_note) = true := by decide +kernel
theorem qLi_151 : li_151.all (qInsOk cX7_noon) = true := by decide +kernel
theorem qLi_152 : li_152.all (qInsOk cX7_owedFor) = true := by decide +kernel
theorem qLi_153 : li_153.all (qInsOk cX7_does) = true := by decide +kernel
theorem qLi_154 : li_154.all (qInsOk cX7_deed) = true := by decide +kernel
theorem qLi_155 : li_155.all (qInsOk cX7_look) = true := by decide +kernel
theorem qLi_156 : li_156.all (qInsOk cX7_build) = true := by decide +kernel
theorem qLi_157 : li_157.all (qInsOk cX7_undo) = true := by decide +kernel
theorem qLi_158 : li_158.all (qInsOk cX7_image) = true := by decide +kernel
theorem qLi_159 : li_159.all (qInsOk cX7_restore) = true := by decide +kernel
theorem qLi_160 : li_160.all (qInsOk cX7_begin) = true := by decide +kernel
theorem qLi_161 : li_161.all (qInsOk cX7_aloneBy) = true := by decide +kernel
theorem qLi_162 : li_162.all (qInsOk cX7_alone) = true := by decide +kernel
theorem qLi_163 : li_163.all (qInsOk cX7_ends) = true := by decide +kernel
theorem qLi_164 : li_164.all (qInsOk cX7_steps) = true := by decide +kernel
theorem qLi_165 : li_165.all (qInsOk cX7_later) = true := by decide +kernel
theorem qLi_166 : li_166.all (qInsOk cX7_barred) = true := by decide +kernel
theorem qLi_167 : li_167.all (qInsOk cX7_judgeBy) = true := by decide +kernel
theorem qLi_168 : li_168.all (qInsOk cX7_judge) = true := by decide +kernel
theorem qLi_169 : li_169.all (qInsOk cX7_sides) = true := by decide +kernel
theorem qLi_170 : li_170.all (qInsOk cX7_comesTo) = true := by decide +kernel
theorem qLi_171 : li_171.all (qInsOk cX7_layCosts) = true := by decide +kernel
theorem qLi_172 : li_172.all (qInsOk cX7_crime) = true := by decide +kernel
theorem qLi_173 : li_173.all (qInsOk cX7_layRow) = true := by decide +kernel
theorem qLi_174 : li_174.all (qInsOk cX7_layOrder) = true := by decide +kernel
theorem qLi_175 : li_175.all (qInsOk cX7_order) = true := by decide +kernel
theorem qLi_176 : li_176.all (qInsOk cX7_isLeft) = true := by decide +kernel
theorem qLi_177 : li_177.all (qInsOk cX7_canBuild) = true := by decide +kernel
theorem qLi_178 : li_178.all (qInsOk cX7_guard) = true := by decide +kernel
theorem qLi_179 : li_179.all (qInsOk cX7_far) = true := by decide +kernel
theorem qLi_180 : li_180.all (qInsOk cX7_turnAt) = true := by decide +kernel
theorem qLi_181 : li_181.all (qInsOk cX7_lastTurn) = true := by decide +kernel
theorem qLi_182 : li_182.all (qInsOk cX7_lastPair) = true := by decide +kernel
theorem qLi_183 : li_183.all (qInsOk cX7_meet) = true := by decide +kernel
theorem qLi_184 : li_184.all (qInsOk cX7_owedIn) = true := by decide +kernel
theorem qLi_185 : li_185.all (qInsOk cX7_law) = true := by decide +kernel
theorem qLi_186 : li_186.all (qInsOk cX7_odds) = true := by decide +kernel
theorem qLi_187 : li_187.all (qInsOk cX7_drawn) = true := by decide +kernel
theorem qLi_188 : li_188.all (qInsOk cX7_isSheet) = true := by decide +kernel
theorem qLi_189 : li_189.all (qInsOk cX7_isPart) = true := by decide +kernel
theorem qLi_190 : li_190.all (qInsOk cX7_wrong) = true := by decide +kernel
theorem qLi_191 : li_191.all (qInsOk cX7_sheet) = true := by decide +kernel
theorem qLi_192 : li_192.all (qInsOk cX7_drop) = true := by decide +kernel
theorem qLi_193 : li_193.all (qInsOk cX7_item) = true := by decide +kernel
theorem qLi_194 : li_194.all (qInsOk cX7_copy) = true := by decide +kernel
theorem qLi_195 : li_195.all (qInsOk cX7_film) = true := by decide +kernel
theorem qLi_196 : li_196.all (qInsOk cX7_takeMarks) = true := by decide +kernel
theorem qLi_197 : li_197.all (qInsOk cX7_isMade) = true := by decide +kernel
theorem qLi_198 : li_198.all (qInsOk cX7_dueBy) = true := by decide +kernel
theorem qLi_199 : li_199.all (qInsOk cX7_who) = true := by decide +kernel
theorem qLi_200 : li_200.all (qInsOk cX7_due) = true := by decide +kernel
theorem qLi_201 : li_201.all (qInsOk cX7_sorts) = true := by decide +kernel
theorem qLi_202 : li_202.all (qInsOk cX7_count) = true := by decide +kernel
theorem qLi_203 : li_203.all (qInsOk cJ0_length_8abf5) = true := by decide +kernel
theorem qLi_204 : li_204.all (qInsOk cJ0_charAt_5068e) = true := by decide +kernel
theorem qLi_205 : li_205.all (qInsOk cJ0_coder_7d493) = true := by decide +kernel
theorem qLi_206 : li_206.all (qInsOk cJ0_isLatin1_aae02) = true := by decide +kernel
theorem qLi_207 : li_207.all (qInsOk cJ0_checkIndex_df160) = true := by decide +kernel
theorem qLi_208 : li_208.all (qInsOk cJ1_charAt_3b067) = true := by decide +kernel
theorem qLi_209 : li_209.all (qInsOk cJ3_checkIndex_8e157) = true := by decide +kernel
