theorem inG0 : ∀ w ∈ u_ws RX0 TX0 6, w ∈ lw_good := inGood _ [319, 321, 323, 325, 327, 329] (by decide +kernel) (by decide +kernel)
theorem inG1 : ∀ w ∈ u_ws RX1 TX1 4, w ∈ lw_good := inGood _ [253, 255, 257, 259] (by decide +kernel) (by decide +kernel)
theorem inG2 : ∀ w ∈ u_ws RX2 TX2 4, w ∈ lw_good := inGood _ [146, 148, 150, 152] (by decide +kernel) (by decide +kernel)
theorem inG3 : ∀ w ∈ u_ws RX3 TX3 7, w ∈ lw_good := inGood _ [165, 167, 169, 171, 173, 175, 177] (by decide +kernel) (by decide +kernel)
theorem inG4 : ∀ w ∈ u_ws RX4 TX4 3, w ∈ lw_good := inGood _ [197, 199, 201] (by decide +kernel) (by decide +kernel)
theorem inG5 : ∀ w ∈ u_ws RX5 TX5 5, w ∈ lw_good := inGood _ [228, 230, 232, 234, 236] (by decide +kernel) (by decide +kernel)
theorem inG6 : ∀ w ∈ u_ws RX6 TX6 3, w ∈ lw_good := inGood _ [119, 121, 123] (by decide +kernel) (by decide +kernel)
theorem inG7 : ∀ w ∈ u_ws RX7 TX7 8, w ∈ lw_good := inGood _ [285, 287, 289, 291, 293, 295, 297, 299] (by decide +kernel) (by decide +kernel)
theorem inG8 : ∀ w ∈ u_ws RX8 TX8 2, w ∈ lw_good := inGood _ [92, 94] (by decide +kernel) (by decide +kernel)
theorem inG9 : ∀ w ∈ u_ws RX9 TX9 11, w ∈ lw_good := inGood _ [343, 345, 347, 349, 351, 353, 355, 357, 359, 361, 363] (by decide +kernel) (by decide +kernel)
theorem inG10 : ∀ w ∈ u_ws RX10 TX10 31, w ∈ lw_good := inGood _ [724, 726, 728, 730, 732, 734, 736, 738, 740, 742, 744, 746, 748, 750, 752, 754, 756, 758, 760, 762, 764, 766, 768, 770, 772, 774, 776, 778, 780, 782, 784] (by decide +kernel) (by decide +kernel)
theorem lkX8_3 : Cond.methodLink RX8 3 Lib.objectInit ∈ lw_good := (tw 86 (by decide +kernel) (by decide +kernel))
theorem wOI : Cond.instanceMethod Lib.objectInit ∈ lw_good := (tw 79 (by decide +kernel) (by decide +kernel))
theorem wOC : Cond.code Lib.objectInit ⟨#[0xb1]⟩ 1 none ∈ lw_good := (tw 80 (by decide +kernel) (by decide +kernel))
theorem wAint : Cond.arrayClass .int ∈ lw_good := (tw 97 (by decide +kernel) (by decide +kernel))
theorem ffX8_9 : FF RX8 9 8 0 2 true := ⟨by decide, rfl, (RX8, TX8, 2), rfl, rfl, inG8, by decide, (tw 87 (by decide +kernel) (by decide +kernel)), rfl, rfl, nmX8, tyX8, tyX8_ok, fun h => absurd h (by decide), fun h => absurd h (by decide), fun _ => rfl⟩
theorem lkX6_3 : Cond.methodLink RX6 3 Lib.objectInit ∈ lw_good := (tw 109 (by decide +kernel) (by decide +kernel))
theorem ffX6_9 : FF RX6 9 6 0 2 true := ⟨by decide, rfl, (RX6, TX6, 3), rfl, rfl, inG6, by decide, (tw 110 (by decide +kernel) (by decide +kernel)), rfl, rfl, nmX6, tyX6, tyX6_ok, fun h => absurd h (by decide), fun h => absurd h (by decide), fun _ => rfl⟩
theorem ffX6_15 : FF RX6 15 6 1 2 true := ⟨by decide, rfl, (RX6, TX6, 3), rfl, rfl, inG6, by decide, (tw 113 (by decide +kernel) (by decide +kernel)), rfl, rfl, nmX6, tyX6, tyX6_ok, fun h => absurd h (by decide), fun h => absurd h (by decide), fun _ => rfl⟩
theorem lkX2_3 : Cond.methodLink RX2 3 Lib.objectInit ∈ lw_good := (tw 131 (by decide +kernel) (by decide +kernel))
theorem ffX2_9 : FF RX2 9 2 0 2 true := ⟨by decide, rfl, (RX2, TX2, 4), rfl, rfl, inG2, by decide, (tw 132 (by decide +kernel) (by decide +kernel)), rfl, rfl, nmX2, tyX2, tyX2_ok, fun h => absurd h (by decide), fun h => absurd h (by decide), fun _ => rfl⟩
theorem ffX2_15 : FF RX2 15 2 1 2 true := ⟨by decide, rfl, (RX2, TX2, 4), rfl, rfl, inG2, by decide, (tw 135 (by decide +kernel) (by decide +kernel)), rfl, rfl, nmX2, tyX2, tyX2_ok, fun h => absurd h (by decide), fun h => absurd h (by decide), fun _ => rfl⟩
theorem ffX2_18 : FF RX2 18 2 2 2 true := ⟨by decide, rfl, (RX2, TX2, 4), rfl, rfl, inG2, by decide, (tw 138 (by decide +kernel) (by decide +kernel)), rfl, rfl, nmX2, tyX2, tyX2_ok, fun h => absurd h (by decide), fun h => absurd h (by decide), fun _ => rfl⟩
theorem lkX3_3 : Cond.methodLink RX3 3 Lib.objectInit ∈ lw_good := (tw 103 (by decide +kernel) (by decide +kernel))
theorem ncX3_9 : NC RX3 9 6 := ⟨by decide, (RX6, TX6, 3), rfl, rfl, inG6, (tw 104 (by decide +kernel) (by decide +kernel)), (tw 105 (by decide +kernel) (by decide +kernel)), (tw 62 (by decide +kernel) (by decide +kernel)), tyX6, tyX6_ok, fun j hj => match j, hj with | 0, _ => rfl | 1, _ => rfl | 2, _ => rfl | j + 3, h => absurd h (by show ¬ (j + 3 < 3); omega)⟩
theorem lnX3_11 : Cond.methodLinkNest RX3 11 yX6_init "StrokeSeek" ∈ lw_nw := tn 106 (by decide +kernel) (by decide +kernel)
theorem mvX6_init : MV true yX6_init cX6_init 1 none 0 := ⟨(tw 108 (by decide +kernel) (by decide +kernel)), (tw 62 (by decide +kernel) (by decide +kernel)), ⟨by decide, by decide⟩, by decide +kernel, ⟨fun _ => (tw 107 (by decide +kernel) (by decide +kernel)), fun h => by cases h⟩⟩
theorem ffX3_12 : FF RX3 12 3 0 2 true := ⟨by decide, rfl, (RX3, TX3, 7), rfl, rfl, inG3, by decide, (tw 155 (by decide +kernel) (by decide +kernel)), rfl, rfl, nmX3, tyX3, tyX3_ok, fun h => absurd h (by decide), fun h => absurd h (by decide), fun _ => rfl⟩
theorem ncX3_18 : NC RX3 18 2 := ⟨by decide, (RX2, TX2, 4), rfl, rfl, inG2, (tw 126 (by decide +kernel) (by decide +kernel)), (tw 127 (by decide +kernel) (by decide +kernel)), (tw 63 (by decide +kernel) (by decide +kernel)), tyX2, tyX2_ok, fun j hj => match j, hj with | 0, _ => rfl | 1, _ => rfl | 2, _ => rfl | 3, _ => rfl | j + 4, h => absurd h (by show ¬ (j + 4 < 4); omega)⟩
theorem lnX3_20 : Cond.methodLinkNest RX3 20 yX2_init "StrokeSeek" ∈ lw_nw := tn 128 (by decide +kernel) (by decide +kernel)
theorem mvX2_init : MV true yX2_init cX2_init 1 none 0 := ⟨(tw 130 (by decide +kernel) (by decide +kernel)), (tw 63 (by decide +kernel) (by decide +kernel)), ⟨by decide, by decide⟩, by decide +kernel, ⟨fun _ => (tw 129 (by decide +kernel) (by decide +kernel)), fun h => by cases h⟩⟩
theorem ffX3_21 : FF RX3 21 3 1 2 true := ⟨by decide, rfl, (RX3, TX3, 7), rfl, rfl, inG3, by decide, (tw 157 (by decide +kernel) (by decide +kernel)), rfl, rfl, nmX3, tyX3, tyX3_ok, fun h => absurd h (by decide), fun h => absurd h (by decide), fun _ => rfl⟩
theorem ffX4_11 : FF RX4 11 4 0 2 true := ⟨by decide, rfl, (RX4, TX4, 3), rfl, rfl, inG4, by decide, (tw 193 (by decide +kernel) (by decide +kernel)), rfl, rfl, nmX4, tyX4, tyX4_ok, fun h => absurd h (by decide), fun h => absurd h (by decide), fun _ => rfl⟩
theorem ncX4_9 : NC RX4 9 2 := ⟨by decide, (RX2, TX2, 4), rfl, rfl, inG2, (tw 190 (by decide +kernel) (by decide +kernel)), (tw 127 (by decide +kernel) (by decide +kernel)), (tw 63 (by decide +kernel) (by decide +kernel)), tyX2, tyX2_ok, fun j hj => match j, hj with | 0, _ => rfl | 1, _ => rfl | 2, _ => rfl | 3, _ => rfl | j + 4, h => absurd h (by show ¬ (j + 4 < 4); omega)⟩
theorem lnX4_17 : Cond.methodLinkNest RX4 17 yX2_init "StrokeSeek" ∈ lw_nw := tn 192 (by decide +kernel) (by decide +kernel)
theorem lkX4_3 : Cond.methodLink RX4 3 Lib.objectInit ∈ lw_good := (tw 189 (by decide +kernel) (by decide +kernel))
theorem wOLog : Cond.arrayOver (.object "StrokeSeek$Log") ∈ lw_nw := tn 191 (by decide +kernel) (by decide +kernel)
theorem clX4_9 : Cond.classLink RX4 9 "StrokeSeek$Log" ∈ lw_good := (tw 190 (by decide +kernel) (by decide +kernel))
theorem lkX5_3 : Cond.methodLink RX5 3 Lib.objectInit ∈ lw_good := (tw 209 (by decide +kernel) (by decide +kernel))
theorem ffX5_9 : FF RX5 9 5 0 2 true := ⟨by decide, rfl, (RX5, TX5, 5), rfl, rfl, inG5, by decide, (tw 210 (by decide +kernel) (by decide +kernel)), rfl, rfl, nmX5, tyX5, tyX5_ok, fun h => absurd h (by decide), fun h => absurd h (by decide), fun _ => rfl⟩
theorem ffX5_15 : FF RX5 15 5 1 2 true := ⟨by decide, rfl, (RX5, TX5, 5), rfl, rfl, inG5, by decide, (tw 212 (by decide +kernel) (by decide +kernel)), rfl, rfl, nmX5, tyX5, tyX5_ok, fun h => absurd h (by decide), fun h => absurd h (by decide), fun _ => rfl⟩
theorem ffX5_18 : FF RX5 18 5 2 2 true := ⟨by decide, rfl, (RX5, TX5, 5), rfl, rfl, inG5, by decide, (tw 216 (by decide +kernel) (by decide +kernel)), rfl, rfl, nmX5, tyX5, tyX5_ok, fun h => absurd h (by decide), fun h => absurd h (by decide), fun _ => rfl⟩
theorem ffX5_21 : FF RX5 21 5 3 2 true := ⟨by decide, rfl, (RX5, TX5, 5), rfl, rfl, inG5, by decide, (tw 220 (by decide +kernel) (by decide +kernel)), rfl, rfl, nmX5, tyX5, tyX5_ok, fun h => absurd h (by decide), fun h => absurd h (by decide), fun _ => rfl⟩
theorem lkX1_3 : Cond.methodLink RX1 3 Lib.objectInit ∈ lw_good := (tw 245 (by decide +kernel) (by decide +kernel))
theorem ffX1_9 : FF RX1 9 1 0 2 true := ⟨by decide, rfl, (RX1, TX1, 4), rfl, rfl, inG1, by decide, (tw 246 (by decide +kernel) (by decide +kernel)), rfl, rfl, nmX1, tyX1, tyX1_ok, fun h => absurd h (by decide), fun h => absurd h (by decide), fun _ => rfl⟩
theorem ffX1_15 : FF RX1 15 1 1 2 true := ⟨by decide, rfl, (RX1, TX1, 4), rfl, rfl, inG1, by decide, (tw 248 (by decide +kernel) (by decide +kernel)), rfl, rfl, nmX1, tyX1, tyX1_ok, fun h => absurd h (by decide), fun h => absurd h (by decide), fun _ => rfl⟩
theorem ffX1_18 : FF RX1 18 1 3 2 true := ⟨by decide, rfl, (RX1, TX1, 4), rfl, rfl, inG1, by decide, (tw 252 (by decide +kernel) (by decide +kernel)), rfl, rfl, nmX1, tyX1, tyX1_ok, fun h => absurd h (by decide), fun h => absurd h (by decide), fun _ => rfl⟩
theorem lkX7_3 : Cond.methodLink RX7 3 Lib.objectInit ∈ lw_good := (tw 267 (by decide +kernel) (by decide +kernel))
theorem wOArr : Cond.arrayOver (.array .long) ∈ lw_nw := tn 269 (by decide +kernel) (by decide +kernel)
theorem wAlong : Cond.arrayClass .long ∈ lw_good := (tw 302 (by decide +kernel) (by decide +kernel))
theorem clX7_11 : Cond.classLink RX7 11 "[[J" ∈ lw_good := (tw 268 (by decide +kernel) (by decide +kernel))
theorem ffX7_13 : FF RX7 13 7 1 2 true := ⟨by decide, rfl, (RX7, TX7, 8), rfl, rfl, inG7, by decide, (tw 271 (by decide +kernel) (by decide +kernel)), rfl, rfl, nmX7, tyX7, tyX7_ok, fun h => absurd h (by decide), fun h => absurd h (by decide), fun _ => rfl⟩
theorem ffX7_16 : FF RX7 16 7 0 2 true := ⟨by decide, rfl, (RX7, TX7, 8), rfl, rfl, inG7, by decide, (tw 270 (by decide +kernel) (by decide +kernel)), rfl, rfl, nmX7, tyX7, tyX7_ok, fun h => absurd h (by decide), fun h => absurd h (by decide), fun _ => rfl⟩
theorem lkX0_3 : Cond.methodLink RX0 3 Lib.objectInit ∈ lw_good := (tw 308 (by decide +kernel) (by decide +kernel))
theorem ffX0_9 : FF RX0 9 0 0 2 true := ⟨by decide, rfl, (RX0, TX0, 6), rfl, rfl, inG0, by decide, (tw 309 (by decide +kernel) (by decide +kernel)), rfl, rfl, nmX0, tyX0, tyX0_ok, fun h => absurd h (by decide), fun h => absurd h (by decide), fun _ => rfl⟩
theorem ffX0_15 : FF RX0 15 0 1 2 true := ⟨by decide, rfl, (RX0, TX0, 6), rfl, rfl, inG0, by decide, (tw 310 (by decide +kernel) (by decide +kernel)), rfl, rfl, nmX0, tyX0, tyX0_ok, fun h => absurd h (by decide), fun h => absurd h (by decide), fun _ => rfl⟩
theorem ffX9_44 : FF RX9 44 9 5 2 true := ⟨by decide, rfl, (RX9, TX9, 11), rfl, rfl, inG9, by decide, (tw 337 (by decide +kernel) (by decide +kernel)), rfl, rfl, nmX9, tyX9, tyX9_ok, fun h => absurd h (by decide), fun h => absurd h (by decide), fun _ => rfl⟩
theorem ncX9_30 : NC RX9 30 2 := ⟨by decide, (RX2, TX2, 4), rfl, rfl, inG2, (tw 182 (by decide +kernel) (by decide +kernel)), (tw 127 (by decide +kernel) (by decide +kernel)), (tw 63 (by decide +kernel) (by decide +kernel)), tyX2, tyX2_ok, fun j hj => match j, hj with | 0, _ => rfl | 1, _ => rfl | 2, _ => rfl | 3, _ => rfl | j + 4, h => absurd h (by show ¬ (j + 4 < 4); omega)⟩
theorem lnX9_32 : Cond.methodLinkNest RX9 32 yX2_init "StrokeSeek" ∈ lw_nw := tn 183 (by decide +kernel) (by decide +kernel)
theorem lkX9_3 : Cond.methodLink RX9 3 Lib.objectInit ∈ lw_good := (tw 78 (by decide +kernel) (by decide +kernel))
theorem ncX9_9 : NC RX9 9 8 := ⟨by decide, (RX8, TX8, 2), rfl, rfl, inG8, (tw 81 (by decide +kernel) (by decide +kernel)), (tw 82 (by decide +kernel) (by decide +kernel)), (tw 60 (by decide +kernel) (by decide +kernel)), tyX8, tyX8_ok, fun j hj => match j, hj with | 0, _ => rfl | 1, _ => rfl | j + 2, h => absurd h (by show ¬ (j + 2 < 2); omega)⟩
theorem lnX9_11 : Cond.methodLinkNest RX9 11 yX8_init "StrokeSeek" ∈ lw_nw := tn 83 (by decide +kernel) (by decide +kernel)
theorem mvX8_init : MV true yX8_init cX8_init 1 none 0 := ⟨(tw 85 (by decide +kernel) (by decide +kernel)), (tw 60 (by decide +kernel) (by decide +kernel)), ⟨by decide, by decide⟩, by decide +kernel, ⟨fun _ => (tw 84 (by decide +kernel) (by decide +kernel)), fun h => by cases h⟩⟩
theorem ffX9_12 : FF RX9 12 9 0 2 true := ⟨by decide, rfl, (RX9, TX9, 11), rfl, rfl, inG9, by decide, (tw 332 (by decide +kernel) (by decide +kernel)), rfl, rfl, nmX9, tyX9, tyX9_ok, fun h => absurd h (by decide), fun h => absurd h (by decide), fun _ => rfl⟩
theorem ncX9_16 : NC RX9 16 3 := ⟨by decide, (RX3, TX3, 7), rfl, rfl, inG3, (tw 98 (by decide +kernel) (by decide +kernel)), (tw 99 (by decide +kernel) (by decide +kernel)), (tw 61 (by decide +kernel) (by decide +kernel)), tyX3, tyX3_ok, fun j hj => match j, hj with | 0, _ => rfl | 1, _ => rfl | 2, _ => rfl | 3, _ => rfl | 4, _ => rfl | 5, _ => rfl | 6, _ => rfl | j + 7, h => absurd h (by show ¬ (j + 7 < 7); omega)⟩
theorem lnX9_18 : Cond.methodLinkNest RX9 18 yX3_init "StrokeSeek" ∈ lw_nw := tn 100 (by decide +kernel) (by decide +kernel)
theorem mvX3_init : MV true yX3_init cX3_init 1 none 0 := ⟨(tw 102 (by decide +kernel) (by decide +kernel)), (tw 61 (by decide +kernel) (by decide +kernel)), ⟨by decide, by decide⟩, by decide +kernel, ⟨fun _ => (tw 101 (by decide +kernel) (by decide +kernel)), fun h => by cases h⟩⟩
theorem ffX9_19 : FF RX9 19 9 1 2 true := ⟨by decide, rfl, (RX9, TX9, 11), rfl, rfl, inG9, by decide, (tw 333 (by decide +kernel) (by decide +kernel)), rfl, rfl, nmX9, tyX9, tyX9_ok, fun h => absurd h (by decide), fun h => absurd h (by decide), fun _ => rfl⟩
theorem ncX9_23 : NC RX9 23 6 := ⟨by decide, (RX6, TX6, 3), rfl, rfl, inG6, (tw 180 (by decide +kernel) (by decide +kernel)), (tw 105 (by decide +kernel) (by decide +kernel)), (tw 62 (by decide +kernel) (by decide +kernel)), tyX6, tyX6_ok, fun j hj => match j, hj with | 0, _ => rfl | 1, _ => rfl | 2, _ => rfl | j + 3, h => absurd h (by show ¬ (j + 3 < 3); omega)⟩
theorem lnX9_25 : Cond.methodLinkNest RX9 25 yX6_init "StrokeSeek" ∈ lw_nw := tn 181 (by decide +kernel) (by decide +kernel)
theorem ffX9_26 : FF RX9 26 9 2 2 true := ⟨by decide, rfl, (RX9, TX9, 11), rfl, rfl, inG9, by decide, (tw 334 (by decide +kernel) (by decide +kernel)), rfl, rfl, nmX9, tyX9, tyX9_ok, fun h => absurd h (by decide), fun h => absurd h (by decide), fun _ => rfl⟩
theorem ffX9_33 : FF RX9 33 9 3 2 true := ⟨by decide, rfl, (RX9, TX9, 11), rfl, rfl, inG9, by decide, (tw 335 (by decide +kernel) (by decide +kernel)), rfl, rfl, nmX9, tyX9, tyX9_ok, fun h => absurd h (by decide), fun h => absurd h (by decide), fun _ => rfl⟩
theorem ncX9_37 : NC RX9 37 4 := ⟨by decide, (RX4, TX4, 3), rfl, rfl, inG4, (tw 184 (by decide +kernel) (by decide +kernel)), (tw 185 (by decide +kernel) (by decide +kernel)), (tw 64 (by decide +kernel) (by decide +kernel)), tyX4, tyX4_ok, fun j hj => match j, hj with | 0, _ => rfl | 1, _ => rfl | 2, _ => rfl | j + 3, h => absurd h (by show ¬ (j + 3 < 3); omega)⟩
theorem lkX9_39 : Cond.methodLink RX9 39 yX4_init ∈ lw_good := (tw 186 (by decide +kernel) (by decide +kernel))
theorem mvX4_init : MV true yX4_init cX4_init 2 none 0 := ⟨(tw 188 (by decide +kernel) (by decide +kernel)), (tw 64 (by decide +kernel) (by decide +kernel)), ⟨by decide, by decide⟩, by decide +kernel, ⟨fun _ => (tw 187 (by decide +kernel) (by decide +kernel)), fun h => by cases h⟩⟩
theorem ffX9_40 : FF RX9 40 9 4 2 true := ⟨by decide, rfl, (RX9, TX9, 11), rfl, rfl, inG9, by decide, (tw 336 (by decide +kernel) (by decide +kernel)), rfl, rfl, nmX9, tyX9, tyX9_ok, fun h => absurd h (by decide), fun h => absurd h (by decide), fun _ => rfl⟩
theorem clX9_30 : Cond.classLink RX9 30 "StrokeSeek$Log" ∈ lw_good := (tw 182 (by decide +kernel) (by decide +kernel))
theorem wAboolean : Cond.arrayClass .boolean ∈ lw_good := (tw 239 (by decide +kernel) (by decide +kernel))
theorem ffX9_48 : FF RX9 48 9 6 2 true := ⟨by decide, rfl, (RX9, TX9, 11), rfl, rfl, inG9, by decide, (tw 338 (by decide +kernel) (by decide +kernel)), rfl, rfl, nmX9, tyX9, tyX9_ok, fun h => absurd h (by decide), fun h => absurd h (by decide), fun _ => rfl⟩
theorem ncX9_52 : NC RX9 52 5 := ⟨by decide, (RX5, TX5, 5), rfl, rfl, inG5, (tw 204 (by decide +kernel) (by decide +kernel)), (tw 205 (by decide +kernel) (by decide +kernel)), (tw 65 (by decide +kernel) (by decide +kernel)), tyX5, tyX5_ok, fun j hj => match j, hj with | 0, _ => rfl | 1, _ => rfl | 2, _ => rfl | 3, _ => rfl | 4, _ => rfl | j + 5, h => absurd h (by show ¬ (j + 5 < 5); omega)⟩
theorem lnX9_54 : Cond.methodLinkNest RX9 54 yX5_init "StrokeSeek" ∈ lw_nw := tn 206 (by decide +kernel) (by decide +kernel)
theorem mvX5_init : MV true yX5_init cX5_init 1 none 0 := ⟨(tw 208 (by decide +kernel) (by decide +kernel)), (tw 65 (by decide +kernel) (by decide +kernel)), ⟨by decide, by decide⟩, by decide +kernel, ⟨fun _ => (tw 207 (by decide +kernel) (by decide +kernel)), fun h => by cases h⟩⟩
theorem ffX9_55 : FF RX9 55 9 7 2 true := ⟨by decide, rfl, (RX9, TX9, 11), rfl, rfl, inG9, by decide, (tw 339 (by decide +kernel) (by decide +kernel)), rfl, rfl, nmX9, tyX9, tyX9_ok, fun h => absurd h (by decide), fun h => absurd h (by decide), fun _ => rfl⟩
theorem ncX9_59 : NC RX9 59 1 := ⟨by decide, (RX1, TX1, 4), rfl, rfl, inG1, (tw 240 (by decide +kernel) (by decide +kernel)), (tw 241 (by decide +kernel) (by decide +kernel)), (tw 66 (by decide +kernel) (by decide +kernel)), tyX1, tyX1_ok, fun j hj => match j, hj with | 0, _ => rfl | 1, _ => rfl | 2, _ => rfl | 3, _ => rfl | j + 4, h => absurd h (by show ¬ (j + 4 < 4); omega)⟩
theorem lnX9_61 : Cond.methodLinkNest RX9 61 yX1_init "StrokeSeek" ∈ lw_nw := tn 242 (by decide +kernel) (by decide +kernel)
theorem mvX1_init : MV true yX1_init cX1_init 1 none 0 := ⟨(tw 244 (by decide +kernel) (by decide +kernel)), (tw 66 (by decide +kernel) (by decide +kernel)), ⟨by decide, by decide⟩, by decide +kernel, ⟨fun _ => (tw 243 (by decide +kernel) (by decide +kernel)), fun h => by cases h⟩⟩
theorem ffX9_62 : FF RX9 62 9 8 2 true := ⟨by decide, rfl, (RX9, TX9, 11), rfl, rfl, inG9, by decide, (tw 340 (by decide +kernel) (by decide +kernel)), rfl, rfl, nmX9, tyX9, tyX9_ok, fun h => absurd h (by decide), fun h => absurd h (by decide), fun _ => rfl⟩
theorem ncX9_66 : NC RX9 66 7 := ⟨by decide, (RX7, TX7, 8), rfl, rfl, inG7, (tw 262 (by decide +kernel) (by decide +kernel)), (tw 263 (by decide +kernel) (by decide +kernel)), (tw 67 (by decide +kernel) (by decide +kernel)), tyX7, tyX7_ok, fun j hj => match j, hj with | 0, _ => rfl | 1, _ => rfl | 2, _ => rfl | 3, _ => rfl | 4, _ => rfl | 5, _ => rfl | 6, _ => rfl | 7, _ => rfl | j + 8, h => absurd h (by show ¬ (j + 8 < 8); omega)⟩
theorem lkX9_68 : Cond.methodLink RX9 68 yX7_init ∈ lw_good := (tw 264 (by decide +kernel) (by decide +kernel))
theorem mvX7_init : MV true yX7_init cX7_init 2 none 1 := ⟨(tw 266 (by decide +kernel) (by decide +kernel)), (tw 67 (by decide +kernel) (by decide +kernel)), ⟨by decide, by decide⟩, by decide +kernel, ⟨fun _ => (tw 265 (by decide +kernel) (by decide +kernel)), fun h => by cases h⟩⟩
theorem ffX9_71 : FF RX9 71 9 9 2 true := ⟨by decide, rfl, (RX9, TX9, 11), rfl, rfl, inG9, by decide, (tw 341 (by decide +kernel) (by decide +kernel)), rfl, rfl, nmX9, tyX9, tyX9_ok, fun h => absurd h (by decide), fun h => absurd h (by decide), fun _ => rfl⟩
theorem ncX9_75 : NC RX9 75 0 := ⟨by decide, (RX0, TX0, 6), rfl, rfl, inG0, (tw 303 (by decide +kernel) (by decide +kernel)), (tw 304 (by decide +kernel) (by decide +kernel)), (tw 68 (by decide +kernel) (by decide +kernel)), tyX0, tyX0_ok, fun j hj => match j, hj with | 0, _ => rfl | 1, _ => rfl | 2, _ => rfl | 3, _ => rfl | 4, _ => rfl | 5, _ => rfl | j + 6, h => absurd h (by show ¬ (j + 6 < 6); omega)⟩
theorem lkX9_77 : Cond.methodLink RX9 77 yX0_init ∈ lw_good := (tw 305 (by decide +kernel) (by decide +kernel))
theorem mvX0_init : MV true yX0_init cX0_init 3 none 2 := ⟨(tw 307 (by decide +kernel) (by decide +kernel)), (tw 68 (by decide +kernel) (by decide +kernel)), ⟨by decide, by decide⟩, by decide +kernel, ⟨fun _ => (tw 306 (by decide +kernel) (by decide +kernel)), fun h => by cases h⟩⟩
theorem ffX9_80 : FF RX9 80 9 10 2 true := ⟨by decide, rfl, (RX9, TX9, 11), rfl, rfl, inG9, by decide, (tw 342 (by decide +kernel) (by decide +kernel)), rfl, rfl, nmX9, tyX9, tyX9_ok, fun h => absurd h (by decide), fun h => absurd h (by decide), fun _ => rfl⟩
theorem ffX8_15 : FF RX8 15 8 1 0 false := ⟨by decide, rfl, (RX8, TX8, 2), rfl, rfl, inG8, by decide, (tw 89 (by decide +kernel) (by decide +kernel)), rfl, rfl, nmX8, tyX8, tyX8_ok, fun _ => rfl, fun h => absurd h (by decide), fun h => absurd h (by decide)⟩
theorem lkX9_84 : Cond.methodLink RX9 84 yX9_within ∈ lw_good := (tw 370 (by decide +kernel) (by decide +kernel))
theorem mvX9_within : MV false yX9_within cX9_within 2 (some .boolean) 2 := ⟨(tw 372 (by decide +kernel) (by decide +kernel)), (tw 59 (by decide +kernel) (by decide +kernel)), ⟨by decide, by decide⟩, by decide +kernel, ⟨fun h => (by cases h), fun _ => (tw 371 (by decide +kernel) (by decide +kernel))⟩⟩
theorem lkX9_88 : Cond.methodLink RX9 88 yX8_append ∈ lw_good := (tw 373 (by decide +kernel) (by decide +kernel))
theorem mvX8_append : MV true yX8_append cX8_append 2 (some .boolean) 1 := ⟨(tw 376 (by decide +kernel) (by decide +kernel)), (tw 60 (by decide +kernel) (by decide +kernel)), ⟨by decide, by decide⟩, by decide +kernel, ⟨fun _ => (tw 374 (by decide +kernel) (by decide +kernel)), fun h => by cases h⟩⟩
theorem seX8_append : Cond.selects RX8 yX8_append yX8_append ∈ lw_good := (tw 375 (by decide +kernel) (by decide +kernel))
theorem ffX9_92 : FF RX9 92 8 1 0 false := ⟨by decide, rfl, (RX8, TX8, 2), rfl, rfl, inG8, by decide, (tw 90 (by decide +kernel) (by decide +kernel)), rfl, rfl, nmX8, tyX8, tyX8_ok, fun _ => rfl, fun h => absurd h (by decide), fun h => absurd h (by decide)⟩
theorem ffX3_40 : FF RX3 40 3 5 0 false := ⟨by decide, rfl, (RX3, TX3, 7), rfl, rfl, inG3, by decide, (tw 163 (by decide +kernel) (by decide +kernel)), rfl, rfl, nmX3, tyX3, tyX3_ok, fun _ => rfl, fun h => absurd h (by decide), fun h => absurd h (by decide)⟩
theorem ffX3_43 : FF RX3 43 3 6 0 false := ⟨by decide, rfl, (RX3, TX3, 7), rfl, rfl, inG3, by decide, (tw 164 (by decide +kernel) (by decide +kernel)), rfl, rfl, nmX3, tyX3, tyX3_ok, fun _ => rfl, fun h => absurd h (by decide), fun h => absurd h (by decide)⟩
theorem ffX3_33 : FF RX3 33 3 3 0 false := ⟨by decide, rfl, (RX3, TX3, 7), rfl, rfl, inG3, by decide, (tw 161 (by decide +kernel) (by decide +kernel)), rfl, rfl, nmX3, tyX3, tyX3_ok, fun _ => rfl, fun h => absurd h (by decide), fun h => absurd h (by decide)⟩
theorem ffX3_53 : FF RX3 53 3 4 0 false := ⟨by decide, rfl, (RX3, TX3, 7), rfl, rfl, inG3, by decide, (tw 162 (by decide +kernel) (by decide +kernel)), rfl, rfl, nmX3, tyX3, tyX3_ok, fun _ => rfl, fun h => absurd h (by decide), fun h => absurd h (by decide)⟩
theorem ffX3_76 : FF RX3 76 8 1 0 false := ⟨by decide, rfl, (RX8, TX8, 2), rfl, rfl, inG8, by decide, (tw 91 (by decide +kernel) (by decide +kernel)), rfl, rfl, nmX8, tyX8, tyX8_ok, fun _ => rfl, fun h => absurd h (by decide), fun h => absurd h (by decide)⟩
theorem ffX3_79 : FF RX3 79 8 0 2 true := ⟨by decide, rfl, (RX8, TX8, 2), rfl, rfl, inG8, by decide, (tw 88 (by decide +kernel) (by decide +kernel)), rfl, rfl, nmX8, tyX8, tyX8_ok, fun h => absurd h (by decide), fun h => absurd h (by decide), fun _ => rfl⟩
theorem lkX3_82 : Cond.methodLink RX3 82 yX3_isDigit ∈ lw_good := (tw 393 (by decide +kernel) (by decide +kernel))
theorem mvX3_isDigit : MV false yX3_isDigit cX3_isDigit 1 (some .boolean) 1 := ⟨(tw 395 (by decide +kernel) (by decide +kernel)), (tw 61 (by decide +kernel) (by decide +kernel)), ⟨by decide, by decide⟩, by decide +kernel, ⟨fun h => (by cases h), fun _ => (tw 394 (by decide +kernel) (by decide +kernel))⟩⟩
theorem lkX3_89 : Cond.methodLink RX3 89 yJ9_min_7cf53 ∈ lw_good := (tw 400 (by decide +kernel) (by decide +kernel))
theorem mvJ9_min_7cf53 : MV false yJ9_min_7cf53 cJ9_min_7cf53 2 (some .int) 2 := ⟨(tw 402 (by decide +kernel) (by decide +kernel)), (tw 70 (by decide +kernel) (by decide +kernel)), ⟨by decide, by decide⟩, by decide +kernel, ⟨fun h => (by cases h), fun _ => (tw 401 (by decide +kernel) (by decide +kernel))⟩⟩
theorem lkX3_86 : Cond.methodLink RX3 86 yX3_advanceOverNumber ∈ lw_good := (tw 396 (by decide +kernel) (by decide +kernel))
theorem mvX3_advanceOverNumber : MV true yX3_advanceOverNumber cX3_advanceOverNumber 4 none 1 := ⟨(tw 399 (by decide +kernel) (by decide +kernel)), (tw 61 (by decide +kernel) (by decide +kernel)), ⟨by decide, by decide⟩, by decide +kernel, ⟨fun _ => (tw 398 (by decide +kernel) (by decide +kernel)), fun h => by cases h⟩⟩
theorem seX3_advanceOverNumber : Cond.selects RX3 yX3_advanceOverNumber yX3_advanceOverNumber ∈ lw_good := (tw 1 (by decide +kernel) (by decide +kernel))
theorem lkX3_36 : Cond.methodLink RX3 36 yX3_advance ∈ lw_good := (tw 389 (by decide +kernel) (by decide +kernel))
theorem mvX3_advance : MV true yX3_advance cX3_advance 2 none 1 := ⟨(tw 392 (by decide +kernel) (by decide +kernel)), (tw 61 (by decide +kernel) (by decide +kernel)), ⟨by decide, by decide⟩, by decide +kernel, ⟨fun _ => (tw 391 (by decide +kernel) (by decide +kernel)), fun h => by cases h⟩⟩
theorem seX3_advance : Cond.selects RX3 yX3_advance yX3_advance ∈ lw_good := (tw 0 (by decide +kernel) (by decide +kernel))
theorem ffX6_24 : FF RX6 24 6 2 0 false := ⟨by decide, rfl, (RX6, TX6, 3), rfl, rfl, inG6, by decide, (tw 117 (by decide +kernel) (by decide +kernel)), rfl, rfl, nmX6, tyX6, tyX6_ok, fun _ => rfl, fun h => absurd h (by decide), fun h => absurd h (by decide)⟩
theorem lkX3_64 : Cond.methodLink RX3 64 yX3_takeSemicolon ∈ lw_good := (tw 414 (by decide +kernel) (by decide +kernel))
theorem mvX3_takeSemicolon : MV true yX3_takeSemicolon cX3_takeSemicolon 2 (some .boolean) 1 := ⟨(tw 417 (by decide +kernel) (by decide +kernel)), (tw 61 (by decide +kernel) (by decide +kernel)), ⟨by decide, by decide⟩, by decide +kernel, ⟨fun _ => (tw 416 (by decide +kernel) (by decide +kernel)), fun h => by cases h⟩⟩
theorem seX3_takeSemicolon : Cond.selects RX3 yX3_takeSemicolon yX3_takeSemicolon ∈ lw_good := (tw 4 (by decide +kernel) (by decide +kernel))
theorem ffX3_67 : FF RX3 67 2 2 2 true := ⟨by decide, rfl, (RX2, TX2, 4), rfl, rfl, inG2, by decide, (tw 140 (by decide +kernel) (by decide +kernel)), rfl, rfl, nmX2, tyX2, tyX2_ok, fun h => absurd h (by decide), fun h => absurd h (by decide), fun _ => rfl⟩
theorem ffX3_25 : FF RX3 25 6 2 0 false := ⟨by decide, rfl, (RX6, TX6, 3), rfl, rfl, inG6, by decide, (tw 116 (by decide +kernel) (by decide +kernel)), rfl, rfl, nmX6, tyX6, tyX6_ok, fun _ => rfl, fun h => absurd h (by decide), fun h => absurd h (by decide)⟩
theorem lkX3_71 : Cond.methodLink RX3 71 yX6_append ∈ lw_good := (tw 418 (by decide +kernel) (by decide +kernel))
theorem mvX6_append : MV true yX6_append cX6_append 3 none 2 := ⟨(tw 421 (by decide +kernel) (by decide +kernel)), (tw 62 (by decide +kernel) (by decide +kernel)), ⟨by decide, by decide⟩, by decide +kernel, ⟨fun _ => (tw 419 (by decide +kernel) (by decide +kernel)), fun h => by cases h⟩⟩
theorem seX6_append : Cond.selects RX6 yX6_append yX6_append ∈ lw_good := (tw 420 (by decide +kernel) (by decide +kernel))
theorem lkX3_56 : Cond.methodLink RX3 56 yX3_takeNumber ∈ lw_good := (tw 407 (by decide +kernel) (by decide +kernel))
theorem mvX3_takeNumber : MV true yX3_takeNumber cX3_takeNumber 3 (some .boolean) 2 := ⟨(tw 410 (by decide +kernel) (by decide +kernel)), (tw 61 (by decide +kernel) (by decide +kernel)), ⟨by decide, by decide⟩, by decide +kernel, ⟨fun _ => (tw 409 (by decide +kernel) (by decide +kernel)), fun h => by cases h⟩⟩
theorem seX3_takeNumber : Cond.selects RX3 yX3_takeNumber yX3_takeNumber ∈ lw_good := (tw 3 (by decide +kernel) (by decide +kernel))
theorem lkX3_60 : Cond.methodLink RX3 60 yX3_clockOf ∈ lw_good := (tw 411 (by decide +kernel) (by decide +kernel))
theorem mvX3_clockOf : MV false yX3_clockOf cX3_clockOf 1 (some .int) 1 := ⟨(tw 413 (by decide +kernel) (by decide +kernel)), (tw 61 (by decide +kernel) (by decide +kernel)), ⟨by decide, by decide⟩, by decide +kernel, ⟨fun h => (by cases h), fun _ => (tw 412 (by decide +kernel) (by decide +kernel))⟩⟩
theorem ffX2_27 : FF RX2 27 2 3 0 false := ⟨by decide, rfl, (RX2, TX2, 4), rfl, rfl, inG2, by decide, (tw 144 (by decide +kernel) (by decide +kernel)), rfl, rfl, nmX2, tyX2, tyX2_ok, fun _ => rfl, fun h => absurd h (by decide), fun h => absurd h (by decide)⟩
theorem ffX3_29 : FF RX3 29 2 3 0 false := ⟨by decide, rfl, (RX2, TX2, 4), rfl, rfl, inG2, by decide, (tw 143 (by decide +kernel) (by decide +kernel)), rfl, rfl, nmX2, tyX2, tyX2_ok, fun _ => rfl, fun h => absurd h (by decide), fun h => absurd h (by decide)⟩
theorem lkX3_75 : Cond.methodLink RX3 75 yX2_append ∈ lw_good := (tw 426 (by decide +kernel) (by decide +kernel))
theorem mvX2_append : MV true yX2_append cX2_append 3 none 2 := ⟨(tw 429 (by decide +kernel) (by decide +kernel)), (tw 63 (by decide +kernel) (by decide +kernel)), ⟨by decide, by decide⟩, by decide +kernel, ⟨fun _ => (tw 427 (by decide +kernel) (by decide +kernel)), fun h => by cases h⟩⟩
theorem seX2_append : Cond.selects RX2 yX2_append yX2_append ∈ lw_good := (tw 428 (by decide +kernel) (by decide +kernel))
theorem ffX3_30 : FF RX3 30 3 2 0 false := ⟨by decide, rfl, (RX3, TX3, 7), rfl, rfl, inG3, by decide, (tw 159 (by decide +kernel) (by decide +kernel)), rfl, rfl, nmX3, tyX3, tyX3_ok, fun _ => rfl, fun h => absurd h (by decide), fun h => absurd h (by decide)⟩
theorem lkX3_50 : Cond.methodLink RX3 50 yX3_takeReading ∈ lw_good := (tw 422 (by decide +kernel) (by decide +kernel))
theorem mvX3_takeReading : MV true yX3_takeReading cX3_takeReading 4 (some .boolean) 1 := ⟨(tw 425 (by decide +kernel) (by decide +kernel)), (tw 61 (by decide +kernel) (by decide +kernel)), ⟨by decide, by decide⟩, by decide +kernel, ⟨fun _ => (tw 424 (by decide +kernel) (by decide +kernel)), fun h => by cases h⟩⟩
theorem seX3_takeReading : Cond.selects RX3 yX3_takeReading yX3_takeReading ∈ lw_good := (tw 5 (by decide +kernel) (by decide +kernel))
theorem lkX3_46 : Cond.methodLink RX3 46 yX3_takeStation ∈ lw_good := (tw 403 (by decide +kernel) (by decide +kernel))
theorem mvX3_takeStation : MV true yX3_takeStation cX3_takeStation 5 (some .boolean) 1 := ⟨(tw 406 (by decide +kernel) (by decide +kernel)), (tw 61 (by decide +kernel) (by decide +kernel)), ⟨by decide, by decide⟩, by decide +kernel, ⟨fun _ => (tw 405 (by decide +kernel) (by decide +kernel)), fun h => by cases h⟩⟩
theorem seX3_takeStation : Cond.selects RX3 yX3_takeStation yX3_takeStation ∈ lw_good := (tw 2 (by decide +kernel) (by decide +kernel))
theorem lkX6_18 : Cond.methodLink RX6 18 arraycopyName ∈ lw_good := (tw 434 (by decide +kernel) (by decide +kernel))
theorem wNat : Cond.native arraycopyName ∈ lw_good := (tw 436 (by decide +kernel) (by decide +kernel))
theorem wSta : Cond.static arraycopyName ∈ lw_good := (tw 435 (by decide +kernel) (by decide +kernel))
theorem wIni : Cond.initialized "java/lang/System" ∈ lw_good := (tw 71 (by decide +kernel) (by decide +kernel))
theorem lkX2_21 : Cond.methodLink RX2 21 arraycopyName ∈ lw_good := (tw 441 (by decide +kernel) (by decide +kernel))
theorem ffX9_110 : FF RX9 110 3 2 0 false := ⟨by decide, rfl, (RX3, TX3, 7), rfl, rfl, inG3, by decide, (tw 160 (by decide +kernel) (by decide +kernel)), rfl, rfl, nmX3, tyX3, tyX3_ok, fun _ => rfl, fun h => absurd h (by decide), fun h => absurd h (by decide)⟩
theorem lkX9_96 : Cond.methodLink RX9 96 yX3_parse ∈ lw_good := (tw 385 (by decide +kernel) (by decide +kernel))
theorem mvX3_parse : MV true yX3_parse cX3_parse 5 (some .int) 1 := ⟨(tw 388 (by decide +kernel) (by decide +kernel)), (tw 61 (by decide +kernel) (by decide +kernel)), ⟨by decide, by decide⟩, by decide +kernel, ⟨fun _ => (tw 386 (by decide +kernel) (by decide +kernel)), fun h => by cases h⟩⟩
theorem seX3_parse : Cond.selects RX3 yX3_parse yX3_parse ∈ lw_good := (tw 387 (by decide +kernel) (by decide +kernel))
theorem ffX9_100 : FF RX9 100 3 0 2 true := ⟨by decide, rfl, (RX3, TX3, 7), rfl, rfl, inG3, by decide, (tw 156 (by decide +kernel) (by decide +kernel)), rfl, rfl, nmX3, tyX3, tyX3_ok, fun h => absurd h (by decide), fun h => absurd h (by decide), fun _ => rfl⟩
theorem lkX9_101 : Cond.methodLink RX9 101 yX6_copy ∈ lw_good := (tw 430 (by decide +kernel) (by decide +kernel))
theorem mvX6_copy : MV true yX6_copy cX6_copy 2 none 1 := ⟨(tw 433 (by decide +kernel) (by decide +kernel)), (tw 62 (by decide +kernel) (by decide +kernel)), ⟨by decide, by decide⟩, by decide +kernel, ⟨fun _ => (tw 431 (by decide +kernel) (by decide +kernel)), fun h => by cases h⟩⟩
theorem seX6_copy : Cond.selects RX6 yX6_copy yX6_copy ∈ lw_good := (tw 432 (by decide +kernel) (by decide +kernel))
theorem ffX9_105 : FF RX9 105 3 1 2 true := ⟨by decide, rfl, (RX3, TX3, 7), rfl, rfl, inG3, by decide, (tw 158 (by decide +kernel) (by decide +kernel)), rfl, rfl, nmX3, tyX3, tyX3_ok, fun h => absurd h (by decide), fun h => absurd h (by decide), fun _ => rfl⟩
theorem lkX9_106 : Cond.methodLink RX9 106 yX2_copy ∈ lw_good := (tw 437 (by decide +kernel) (by decide +kernel))
theorem mvX2_copy : MV true yX2_copy cX2_copy 2 none 1 := ⟨(tw 440 (by decide +kernel) (by decide +kernel)), (tw 63 (by decide +kernel) (by decide +kernel)), ⟨by decide, by decide⟩, by decide +kernel, ⟨fun _ => (tw 438 (by decide +kernel) (by decide +kernel)), fun h => by cases h⟩⟩
theorem seX2_copy : Cond.selects RX2 yX2_copy yX2_copy ∈ lw_good := (tw 439 (by decide +kernel) (by decide +kernel))
theorem ffX9_109 : FF RX9 109 4 2 0 false := ⟨by decide, rfl, (RX4, TX4, 3), rfl, rfl, inG4, by decide, (tw 196 (by decide +kernel) (by decide +kernel)), rfl, rfl, nmX4, tyX4, tyX4_ok, fun _ => rfl, fun h => absurd h (by decide), fun h => absurd h (by decide)⟩
theorem ffX9_234 : FF RX9 234 6 2 0 false := ⟨by decide, rfl, (RX6, TX6, 3), rfl, rfl, inG6, by decide, (tw 118 (by decide +kernel) (by decide +kernel)), rfl, rfl, nmX6, tyX6, tyX6_ok, fun _ => rfl, fun h => absurd h (by decide), fun h => absurd h (by decide)⟩
theorem lkX9_113 : Cond.methodLink RX9 113 yX9_hasStation ∈ lw_good := (tw 446 (by decide +kernel) (by decide +kernel))
theorem mvX9_hasStation : MV true yX9_hasStation cX9_hasStation 2 (some .boolean) 1 := ⟨(tw 449 (by decide +kernel) (by decide +kernel)), (tw 59 (by decide +kernel) (by decide +kernel)), ⟨by decide, by decide⟩, by decide +kernel, ⟨fun _ => (tw 448 (by decide +kernel) (by decide +kernel)), fun h => by cases h⟩⟩
theorem seX9_hasStation : Cond.selects RX9 yX9_hasStation yX9_hasStation ∈ lw_good := (tw 6 (by decide +kernel) (by decide +kernel))
theorem ffX9_116 : FF RX9 116 6 0 2 true := ⟨by decide, rfl, (RX6, TX6, 3), rfl, rfl, inG6, by decide, (tw 112 (by decide +kernel) (by decide +kernel)), rfl, rfl, nmX6, tyX6, tyX6_ok, fun h => absurd h (by decide), fun h => absurd h (by decide), fun _ => rfl⟩
theorem ffX9_120 : FF RX9 120 6 1 2 true := ⟨by decide, rfl, (RX6, TX6, 3), rfl, rfl, inG6, by decide, (tw 115 (by decide +kernel) (by decide +kernel)), rfl, rfl, nmX6, tyX6, tyX6_ok, fun h => absurd h (by decide), fun h => absurd h (by decide), fun _ => rfl⟩
theorem ffX9_123 : FF RX9 123 2 2 2 true := ⟨by decide, rfl, (RX2, TX2, 4), rfl, rfl, inG2, by decide, (tw 141 (by decide +kernel) (by decide +kernel)), rfl, rfl, nmX2, tyX2, tyX2_ok, fun h => absurd h (by decide), fun h => absurd h (by decide), fun _ => rfl⟩
theorem ffX9_146 : FF RX9 146 2 3 0 false := ⟨by decide, rfl, (RX2, TX2, 4), rfl, rfl, inG2, by decide, (tw 145 (by decide +kernel) (by decide +kernel)), rfl, rfl, nmX2, tyX2, tyX2_ok, fun _ => rfl, fun h => absurd h (by decide), fun h => absurd h (by decide)⟩
theorem ffX5_30 : FF RX5 30 5 4 0 false := ⟨by decide, rfl, (RX5, TX5, 5), rfl, rfl, inG5, by decide, (tw 224 (by decide +kernel) (by decide +kernel)), rfl, rfl, nmX5, tyX5, tyX5_ok, fun _ => rfl, fun h => absurd h (by decide), fun h => absurd h (by decide)⟩
theorem ffX5_31 : FF RX5 31 2 0 2 true := ⟨by decide, rfl, (RX2, TX2, 4), rfl, rfl, inG2, by decide, (tw 133 (by decide +kernel) (by decide +kernel)), rfl, rfl, nmX2, tyX2, tyX2_ok, fun h => absurd h (by decide), fun h => absurd h (by decide), fun _ => rfl⟩
theorem ffX5_32 : FF RX5 32 6 0 2 true := ⟨by decide, rfl, (RX6, TX6, 3), rfl, rfl, inG6, by decide, (tw 111 (by decide +kernel) (by decide +kernel)), rfl, rfl, nmX6, tyX6, tyX6_ok, fun h => absurd h (by decide), fun h => absurd h (by decide), fun _ => rfl⟩
theorem ffX5_35 : FF RX5 35 6 1 2 true := ⟨by decide, rfl, (RX6, TX6, 3), rfl, rfl, inG6, by decide, (tw 114 (by decide +kernel) (by decide +kernel)), rfl, rfl, nmX6, tyX6, tyX6_ok, fun h => absurd h (by decide), fun h => absurd h (by decide), fun _ => rfl⟩
theorem ffX5_36 : FF RX5 36 2 2 2 true := ⟨by decide, rfl, (RX2, TX2, 4), rfl, rfl, inG2, by decide, (tw 139 (by decide +kernel) (by decide +kernel)), rfl, rfl, nmX2, tyX2, tyX2_ok, fun h => absurd h (by decide), fun h => absurd h (by decide), fun _ => rfl⟩
theorem ffX5_39 : FF RX5 39 2 1 2 true := ⟨by decide, rfl, (RX2, TX2, 4), rfl, rfl, inG2, by decide, (tw 136 (by decide +kernel) (by decide +kernel)), rfl, rfl, nmX2, tyX2, tyX2_ok, fun h => absurd h (by decide), fun h => absurd h (by decide), fun _ => rfl⟩
theorem lnX5_42 : Cond.methodLinkNest RX5 42 yX9_timeOf "StrokeSeek" ∈ lw_nw := tn 470 (by decide +kernel) (by decide +kernel)
theorem mvX9_timeOf : MV false yX9_timeOf cX9_timeOf 2 (some .int) 2 := ⟨(tw 461 (by decide +kernel) (by decide +kernel)), (tw 59 (by decide +kernel) (by decide +kernel)), ⟨by decide, by decide⟩, by decide +kernel, ⟨fun h => (by cases h), fun _ => (tw 460 (by decide +kernel) (by decide +kernel))⟩⟩
theorem ffX5_24 : FF RX5 24 2 3 0 false := ⟨by decide, rfl, (RX2, TX2, 4), rfl, rfl, inG2, by decide, (tw 142 (by decide +kernel) (by decide +kernel)), rfl, rfl, nmX2, tyX2, tyX2_ok, fun _ => rfl, fun h => absurd h (by decide), fun h => absurd h (by decide)⟩
theorem ffX1_40 : FF RX1 40 5 3 2 true := ⟨by decide, rfl, (RX5, TX5, 5), rfl, rfl, inG5, by decide, (tw 222 (by decide +kernel) (by decide +kernel)), rfl, rfl, nmX5, tyX5, tyX5_ok, fun h => absurd h (by decide), fun h => absurd h (by decide), fun _ => rfl⟩
theorem ffX1_43 : FF RX1 43 5 0 2 true := ⟨by decide, rfl, (RX5, TX5, 5), rfl, rfl, inG5, by decide, (tw 211 (by decide +kernel) (by decide +kernel)), rfl, rfl, nmX5, tyX5, tyX5_ok, fun h => absurd h (by decide), fun h => absurd h (by decide), fun _ => rfl⟩
theorem lkX1_36 : Cond.methodLink RX1 36 yX1_isBefore ∈ lw_good := (tw 479 (by decide +kernel) (by decide +kernel))
theorem mvX1_isBefore : MV false yX1_isBefore cX1_isBefore 4 (some .boolean) 3 := ⟨(tw 481 (by decide +kernel) (by decide +kernel)), (tw 66 (by decide +kernel) (by decide +kernel)), ⟨by decide, by decide⟩, by decide +kernel, ⟨fun h => (by cases h), fun _ => (tw 480 (by decide +kernel) (by decide +kernel))⟩⟩
theorem ffX1_29 : FF RX1 29 5 4 0 false := ⟨by decide, rfl, (RX5, TX5, 5), rfl, rfl, inG5, by decide, (tw 225 (by decide +kernel) (by decide +kernel)), rfl, rfl, nmX5, tyX5, tyX5_ok, fun _ => rfl, fun h => absurd h (by decide), fun h => absurd h (by decide)⟩
theorem ffX1_56 : FF RX1 56 5 1 2 true := ⟨by decide, rfl, (RX5, TX5, 5), rfl, rfl, inG5, by decide, (tw 214 (by decide +kernel) (by decide +kernel)), rfl, rfl, nmX5, tyX5, tyX5_ok, fun h => absurd h (by decide), fun h => absurd h (by decide), fun _ => rfl⟩
theorem ffX1_59 : FF RX1 59 5 2 2 true := ⟨by decide, rfl, (RX5, TX5, 5), rfl, rfl, inG5, by decide, (tw 218 (by decide +kernel) (by decide +kernel)), rfl, rfl, nmX5, tyX5, tyX5_ok, fun h => absurd h (by decide), fun h => absurd h (by decide), fun _ => rfl⟩
theorem lnX1_49 : Cond.methodLinkNest RX1 49 yX9_holds "StrokeSeek" ∈ lw_nw := tn 490 (by decide +kernel) (by decide +kernel)
theorem mvX9_holds : MV false yX9_holds cX9_holds 2 (some .boolean) 2 := ⟨(tw 492 (by decide +kernel) (by decide +kernel)), (tw 59 (by decide +kernel) (by decide +kernel)), ⟨by decide, by decide⟩, by decide +kernel, ⟨fun h => (by cases h), fun _ => (tw 491 (by decide +kernel) (by decide +kernel))⟩⟩
theorem lkX1_53 : Cond.methodLink RX1 53 yX1_goTogether ∈ lw_good := (tw 493 (by decide +kernel) (by decide +kernel))
theorem mvX1_goTogether : MV false yX1_goTogether cX1_goTogether 6 (some .boolean) 3 := ⟨(tw 495 (by decide +kernel) (by decide +kernel)), (tw 66 (by decide +kernel) (by decide +kernel)), ⟨by decide, by decide⟩, by decide +kernel, ⟨fun h => (by cases h), fun _ => (tw 494 (by decide +kernel) (by decide +kernel))⟩⟩
theorem ffX1_25 : FF RX1 25 1 2 0 false := ⟨by decide, rfl, (RX1, TX1, 4), rfl, rfl, inG1, by decide, (tw 250 (by decide +kernel) (by decide +kernel)), rfl, rfl, nmX1, tyX1, tyX1_ok, fun _ => rfl, fun h => absurd h (by decide), fun h => absurd h (by decide)⟩
theorem lkX1_46 : Cond.methodLink RX1 46 yX1_fits ∈ lw_good := (tw 486 (by decide +kernel) (by decide +kernel))
theorem mvX1_fits : MV true yX1_fits cX1_fits 5 (some .boolean) 3 := ⟨(tw 489 (by decide +kernel) (by decide +kernel)), (tw 66 (by decide +kernel) (by decide +kernel)), ⟨by decide, by decide⟩, by decide +kernel, ⟨fun _ => (tw 488 (by decide +kernel) (by decide +kernel)), fun h => by cases h⟩⟩
theorem seX1_fits : Cond.selects RX1 yX1_fits yX1_fits ∈ lw_good := (tw 11 (by decide +kernel) (by decide +kernel))
theorem lkX1_32 : Cond.methodLink RX1 32 yX1_firstFitting ∈ lw_good := (tw 482 (by decide +kernel) (by decide +kernel))
theorem mvX1_firstFitting : MV true yX1_firstFitting cX1_firstFitting 4 (some .int) 2 := ⟨(tw 485 (by decide +kernel) (by decide +kernel)), (tw 66 (by decide +kernel) (by decide +kernel)), ⟨by decide, by decide⟩, by decide +kernel, ⟨fun _ => (tw 484 (by decide +kernel) (by decide +kernel)), fun h => by cases h⟩⟩
theorem seX1_firstFitting : Cond.selects RX1 yX1_firstFitting yX1_firstFitting ∈ lw_good := (tw 10 (by decide +kernel) (by decide +kernel))
theorem lkX1_21 : Cond.methodLink RX1 21 yX1_sort ∈ lw_good := (tw 475 (by decide +kernel) (by decide +kernel))
theorem mvX1_sort : MV true yX1_sort cX1_sort 4 none 1 := ⟨(tw 478 (by decide +kernel) (by decide +kernel)), (tw 66 (by decide +kernel) (by decide +kernel)), ⟨by decide, by decide⟩, by decide +kernel, ⟨fun _ => (tw 477 (by decide +kernel) (by decide +kernel)), fun h => by cases h⟩⟩
theorem seX1_sort : Cond.selects RX1 yX1_sort yX1_sort ∈ lw_good := (tw 9 (by decide +kernel) (by decide +kernel))
theorem lkX9_212 : Cond.methodLink RX9 212 yX5_take ∈ lw_good := (tw 466 (by decide +kernel) (by decide +kernel))
theorem mvX5_take : MV true yX5_take cX5_take 5 none 2 := ⟨(tw 469 (by decide +kernel) (by decide +kernel)), (tw 65 (by decide +kernel) (by decide +kernel)), ⟨by decide, by decide⟩, by decide +kernel, ⟨fun _ => (tw 467 (by decide +kernel) (by decide +kernel)), fun h => by cases h⟩⟩
theorem seX5_take : Cond.selects RX5 yX5_take yX5_take ∈ lw_good := (tw 468 (by decide +kernel) (by decide +kernel))
theorem lkX9_239 : Cond.methodLink RX9 239 yX1_make ∈ lw_good := (tw 471 (by decide +kernel) (by decide +kernel))
theorem mvX1_make : MV true yX1_make cX1_make 5 none 1 := ⟨(tw 474 (by decide +kernel) (by decide +kernel)), (tw 66 (by decide +kernel) (by decide +kernel)), ⟨by decide, by decide⟩, by decide +kernel, ⟨fun _ => (tw 472 (by decide +kernel) (by decide +kernel)), fun h => by cases h⟩⟩
theorem seX1_make : Cond.selects RX1 yX1_make yX1_make ∈ lw_good := (tw 473 (by decide +kernel) (by decide +kernel))
theorem cwX9_129 : Cond.constant RX9 129 (-1000000000) ∈ lw_good := (tw 458 (by decide +kernel) (by decide +kernel))
theorem lkX9_126 : Cond.methodLink RX9 126 yX9_hasReading ∈ lw_good := (tw 454 (by decide +kernel) (by decide +kernel))
theorem mvX9_hasReading : MV true yX9_hasReading cX9_hasReading 2 (some .boolean) 1 := ⟨(tw 457 (by decide +kernel) (by decide +kernel)), (tw 59 (by decide +kernel) (by decide +kernel)), ⟨by decide, by decide⟩, by decide +kernel, ⟨fun _ => (tw 456 (by decide +kernel) (by decide +kernel)), fun h => by cases h⟩⟩
theorem seX9_hasReading : Cond.selects RX9 yX9_hasReading yX9_hasReading ∈ lw_good := (tw 7 (by decide +kernel) (by decide +kernel))
theorem ffX9_130 : FF RX9 130 2 0 2 true := ⟨by decide, rfl, (RX2, TX2, 4), rfl, rfl, inG2, by decide, (tw 134 (by decide +kernel) (by decide +kernel)), rfl, rfl, nmX2, tyX2, tyX2_ok, fun h => absurd h (by decide), fun h => absurd h (by decide), fun _ => rfl⟩
theorem ffX9_133 : FF RX9 133 2 1 2 true := ⟨by decide, rfl, (RX2, TX2, 4), rfl, rfl, inG2, by decide, (tw 137 (by decide +kernel) (by decide +kernel)), rfl, rfl, nmX2, tyX2, tyX2_ok, fun h => absurd h (by decide), fun h => absurd h (by decide), fun _ => rfl⟩
theorem lkX9_136 : Cond.methodLink RX9 136 yX9_timeOf ∈ lw_good := (tw 459 (by decide +kernel) (by decide +kernel))
theorem lkX9_140 : Cond.methodLink RX9 140 yX9_regroup ∈ lw_good := (tw 462 (by decide +kernel) (by decide +kernel))
theorem mvX9_regroup : MV true yX9_regroup cX9_regroup 1 none 0 := ⟨(tw 465 (by decide +kernel) (by decide +kernel)), (tw 59 (by decide +kernel) (by decide +kernel)), ⟨by decide, by decide⟩, by decide +kernel, ⟨fun _ => (tw 464 (by decide +kernel) (by decide +kernel)), fun h => by cases h⟩⟩
theorem seX9_regroup : Cond.selects RX9 yX9_regroup yX9_regroup ∈ lw_good := (tw 8 (by decide +kernel) (by decide +kernel))
theorem ffX9_143 : FF RX9 143 1 1 2 true := ⟨by decide, rfl, (RX1, TX1, 4), rfl, rfl, inG1, by decide, (tw 249 (by decide +kernel) (by decide +kernel)), rfl, rfl, nmX1, tyX1, tyX1_ok, fun h => absurd h (by decide), fun h => absurd h (by decide), fun _ => rfl⟩
theorem ffX4_18 : FF RX4 18 4 1 0 false := ⟨by decide, rfl, (RX4, TX4, 3), rfl, rfl, inG4, by decide, (tw 194 (by decide +kernel) (by decide +kernel)), rfl, rfl, nmX4, tyX4, tyX4_ok, fun _ => rfl, fun h => absurd h (by decide), fun h => absurd h (by decide)⟩
theorem lkX4_22 : Cond.methodLink RX4 22 yX2_copy ∈ lw_good := (tw 504 (by decide +kernel) (by decide +kernel))
theorem ffX4_26 : FF RX4 26 4 2 0 false := ⟨by decide, rfl, (RX4, TX4, 3), rfl, rfl, inG4, by decide, (tw 195 (by decide +kernel) (by decide +kernel)), rfl, rfl, nmX4, tyX4, tyX4_ok, fun _ => rfl, fun h => absurd h (by decide), fun h => absurd h (by decide)⟩
theorem lkX4_29 : Cond.methodLink RX4 29 yJ9_min_7cf53 ∈ lw_good := (tw 505 (by decide +kernel) (by decide +kernel))
theorem lkX9_147 : Cond.methodLink RX9 147 yX4_push ∈ lw_good := (tw 500 (by decide +kernel) (by decide +kernel))
theorem mvX4_push : MV true yX4_push cX4_push 2 none 1 := ⟨(tw 503 (by decide +kernel) (by decide +kernel)), (tw 64 (by decide +kernel) (by decide +kernel)), ⟨by decide, by decide⟩, by decide +kernel, ⟨fun _ => (tw 501 (by decide +kernel) (by decide +kernel)), fun h => by cases h⟩⟩
theorem seX4_push : Cond.selects RX4 yX4_push yX4_push ∈ lw_good := (tw 502 (by decide +kernel) (by decide +kernel))
theorem lkX9_150 : Cond.methodLink RX9 150 yX2_append ∈ lw_good := (tw 506 (by decide +kernel) (by decide +kernel))
theorem lkX9_153 : Cond.methodLink RX9 153 yX2_remove ∈ lw_good := (tw 511 (by decide +kernel) (by decide +kernel))
theorem mvX2_remove : MV true yX2_remove cX2_remove 3 none 1 := ⟨(tw 514 (by decide +kernel) (by decide +kernel)), (tw 63 (by decide +kernel) (by decide +kernel)), ⟨by decide, by decide⟩, by decide +kernel, ⟨fun _ => (tw 512 (by decide +kernel) (by decide +kernel)), fun h => by cases h⟩⟩
theorem seX2_remove : Cond.selects RX2 yX2_remove yX2_remove ∈ lw_good := (tw 513 (by decide +kernel) (by decide +kernel))
theorem lkX9_157 : Cond.methodLink RX9 157 yX4_pop ∈ lw_good := (tw 523 (by decide +kernel) (by decide +kernel))
theorem mvX4_pop : MV true yX4_pop cX4_pop 2 none 1 := ⟨(tw 526 (by decide +kernel) (by decide +kernel)), (tw 64 (by decide +kernel) (by decide +kernel)), ⟨by decide, by decide⟩, by decide +kernel, ⟨fun _ => (tw 524 (by decide +kernel) (by decide +kernel)), fun h => by cases h⟩⟩
theorem seX4_pop : Cond.selects RX4 yX4_pop yX4_pop ∈ lw_good := (tw 525 (by decide +kernel) (by decide +kernel))
theorem ffX7_73 : FF RX7 73 5 4 0 false := ⟨by decide, rfl, (RX5, TX5, 5), rfl, rfl, inG5, by decide, (tw 226 (by decide +kernel) (by decide +kernel)), rfl, rfl, nmX5, tyX5, tyX5_ok, fun _ => rfl, fun h => absurd h (by decide), fun h => absurd h (by decide)⟩
theorem lnX7_74 : Cond.methodLinkNest RX7 74 yX9_holds "StrokeSeek" ∈ lw_nw := tn 543 (by decide +kernel) (by decide +kernel)
theorem ffX7_66 : FF RX7 66 5 1 2 true := ⟨by decide, rfl, (RX5, TX5, 5), rfl, rfl, inG5, by decide, (tw 213 (by decide +kernel) (by decide +kernel)), rfl, rfl, nmX5, tyX5, tyX5_ok, fun h => absurd h (by decide), fun h => absurd h (by decide), fun _ => rfl⟩
theorem ffX7_68 : FF RX7 68 5 2 2 true := ⟨by decide, rfl, (RX5, TX5, 5), rfl, rfl, inG5, by decide, (tw 217 (by decide +kernel) (by decide +kernel)), rfl, rfl, nmX5, tyX5, tyX5_ok, fun h => absurd h (by decide), fun h => absurd h (by decide), fun _ => rfl⟩
theorem ffX7_40 : FF RX7 40 5 3 2 true := ⟨by decide, rfl, (RX5, TX5, 5), rfl, rfl, inG5, by decide, (tw 221 (by decide +kernel) (by decide +kernel)), rfl, rfl, nmX5, tyX5, tyX5_ok, fun h => absurd h (by decide), fun h => absurd h (by decide), fun _ => rfl⟩
theorem lkX7_82 : Cond.methodLink RX7 82 yX7_squares ∈ lw_good := (tw 548 (by decide +kernel) (by decide +kernel))
theorem mvX7_squares : MV true yX7_squares cX7_squares 2 (some .int) 1 := ⟨(tw 551 (by decide +kernel) (by decide +kernel)), (tw 67 (by decide +kernel) (by decide +kernel)), ⟨by decide, by decide⟩, by decide +kernel, ⟨fun _ => (tw 550 (by decide +kernel) (by decide +kernel)), fun h => by cases h⟩⟩
theorem seX7_squares : Cond.selects RX7 yX7_squares yX7_squares ∈ lw_good := (tw 15 (by decide +kernel) (by decide +kernel))
theorem ffX7_70 : FF RX7 70 7 2 0 false := ⟨by decide, rfl, (RX7, TX7, 8), rfl, rfl, inG7, by decide, (tw 272 (by decide +kernel) (by decide +kernel)), rfl, rfl, nmX7, tyX7, tyX7_ok, fun _ => rfl, fun h => absurd h (by decide), fun h => absurd h (by decide)⟩
theorem lkX7_78 : Cond.methodLink RX7 78 yX7_loadEquation ∈ lw_good := (tw 544 (by decide +kernel) (by decide +kernel))
theorem mvX7_loadEquation : MV true yX7_loadEquation cX7_loadEquation 4 none 3 := ⟨(tw 547 (by decide +kernel) (by decide +kernel)), (tw 67 (by decide +kernel) (by decide +kernel)), ⟨by decide, by decide⟩, by decide +kernel, ⟨fun _ => (tw 546 (by decide +kernel) (by decide +kernel)), fun h => by cases h⟩⟩
theorem seX7_loadEquation : Cond.selects RX7 yX7_loadEquation yX7_loadEquation ∈ lw_good := (tw 14 (by decide +kernel) (by decide +kernel))
theorem lkX7_32 : Cond.methodLink RX7 32 yX7_firstOf ∈ lw_good := (tw 539 (by decide +kernel) (by decide +kernel))
theorem mvX7_firstOf : MV true yX7_firstOf cX7_firstOf 3 (some .int) 1 := ⟨(tw 542 (by decide +kernel) (by decide +kernel)), (tw 67 (by decide +kernel) (by decide +kernel)), ⟨by decide, by decide⟩, by decide +kernel, ⟨fun _ => (tw 541 (by decide +kernel) (by decide +kernel)), fun h => by cases h⟩⟩
theorem seX7_firstOf : Cond.selects RX7 yX7_firstOf yX7_firstOf ∈ lw_good := (tw 13 (by decide +kernel) (by decide +kernel))
theorem ffX7_28 : FF RX7 28 7 3 0 false := ⟨by decide, rfl, (RX7, TX7, 8), rfl, rfl, inG7, by decide, (tw 273 (by decide +kernel) (by decide +kernel)), rfl, rfl, nmX7, tyX7, tyX7_ok, fun _ => rfl, fun h => absurd h (by decide), fun h => absurd h (by decide)⟩
theorem lkX7_92 : Cond.methodLink RX7 92 yX7_reduce ∈ lw_good := (tw 564 (by decide +kernel) (by decide +kernel))
theorem mvX7_reduce : MV false yX7_reduce cX7_reduce 10 none 4 := ⟨(tw 566 (by decide +kernel) (by decide +kernel)), (tw 67 (by decide +kernel) (by decide +kernel)), ⟨by decide, by decide⟩, by decide +kernel, ⟨fun h => (by cases h), fun _ => (tw 565 (by decide +kernel) (by decide +kernel))⟩⟩
theorem lkX7_85 : Cond.methodLink RX7 85 yX7_pivotOf ∈ lw_good := (tw 556 (by decide +kernel) (by decide +kernel))
theorem mvX7_pivotOf : MV true yX7_pivotOf cX7_pivotOf 3 (some .int) 1 := ⟨(tw 559 (by decide +kernel) (by decide +kernel)), (tw 67 (by decide +kernel) (by decide +kernel)), ⟨by decide, by decide⟩, by decide +kernel, ⟨fun _ => (tw 558 (by decide +kernel) (by decide +kernel)), fun h => by cases h⟩⟩
theorem seX7_pivotOf : Cond.selects RX7 yX7_pivotOf yX7_pivotOf ∈ lw_good := (tw 17 (by decide +kernel) (by decide +kernel))
theorem lkX7_88 : Cond.methodLink RX7 88 yX7_swap ∈ lw_good := (tw 560 (by decide +kernel) (by decide +kernel))
theorem mvX7_swap : MV true yX7_swap cX7_swap 6 none 2 := ⟨(tw 563 (by decide +kernel) (by decide +kernel)), (tw 67 (by decide +kernel) (by decide +kernel)), ⟨by decide, by decide⟩, by decide +kernel, ⟨fun _ => (tw 562 (by decide +kernel) (by decide +kernel)), fun h => by cases h⟩⟩
theorem seX7_swap : Cond.selects RX7 yX7_swap yX7_swap ∈ lw_good := (tw 18 (by decide +kernel) (by decide +kernel))
theorem ffX7_60 : FF RX7 60 7 4 1 false := ⟨by decide, rfl, (RX7, TX7, 8), rfl, rfl, inG7, by decide, (tw 276 (by decide +kernel) (by decide +kernel)), rfl, rfl, nmX7, tyX7, tyX7_ok, fun h => absurd h (by decide), fun _ => rfl, fun h => absurd h (by decide)⟩
theorem ffX7_63 : FF RX7 63 7 5 1 false := ⟨by decide, rfl, (RX7, TX7, 8), rfl, rfl, inG7, by decide, (tw 278 (by decide +kernel) (by decide +kernel)), rfl, rfl, nmX7, tyX7, tyX7_ok, fun h => absurd h (by decide), fun _ => rfl, fun h => absurd h (by decide)⟩
theorem ffX7_36 : FF RX7 36 7 6 1 false := ⟨by decide, rfl, (RX7, TX7, 8), rfl, rfl, inG7, by decide, (tw 280 (by decide +kernel) (by decide +kernel)), rfl, rfl, nmX7, tyX7, tyX7_ok, fun h => absurd h (by decide), fun _ => rfl, fun h => absurd h (by decide)⟩
theorem ffX7_45 : FF RX7 45 7 7 1 false := ⟨by decide, rfl, (RX7, TX7, 8), rfl, rfl, inG7, by decide, (tw 282 (by decide +kernel) (by decide +kernel)), rfl, rfl, nmX7, tyX7, tyX7_ok, fun h => absurd h (by decide), fun _ => rfl, fun h => absurd h (by decide)⟩
theorem lkX7_52 : Cond.methodLink RX7 52 yX7_load ∈ lw_good := (tw 535 (by decide +kernel) (by decide +kernel))
theorem mvX7_load : MV true yX7_load cX7_load 4 none 1 := ⟨(tw 538 (by decide +kernel) (by decide +kernel)), (tw 67 (by decide +kernel) (by decide +kernel)), ⟨by decide, by decide⟩, by decide +kernel, ⟨fun _ => (tw 537 (by decide +kernel) (by decide +kernel)), fun h => by cases h⟩⟩
theorem seX7_load : Cond.selects RX7 yX7_load yX7_load ∈ lw_good := (tw 12 (by decide +kernel) (by decide +kernel))
theorem lkX7_55 : Cond.methodLink RX7 55 yX7_eliminate ∈ lw_good := (tw 552 (by decide +kernel) (by decide +kernel))
theorem mvX7_eliminate : MV true yX7_eliminate cX7_eliminate 6 none 0 := ⟨(tw 555 (by decide +kernel) (by decide +kernel)), (tw 67 (by decide +kernel) (by decide +kernel)), ⟨by decide, by decide⟩, by decide +kernel, ⟨fun _ => (tw 554 (by decide +kernel) (by decide +kernel)), fun h => by cases h⟩⟩
theorem seX7_eliminate : Cond.selects RX7 yX7_eliminate yX7_eliminate ∈ lw_good := (tw 16 (by decide +kernel) (by decide +kernel))
theorem cwX7_58 : Cond.constantLong RX7 58 (-1) ∈ lw_good := (tw 567 (by decide +kernel) (by decide +kernel))
theorem lkX7_48 : Cond.methodLink RX7 48 yX7_miss ∈ lw_good := (tw 577 (by decide +kernel) (by decide +kernel))
theorem mvX7_miss : MV true yX7_miss cX7_miss 8 (some .long) 1 := ⟨(tw 580 (by decide +kernel) (by decide +kernel)), (tw 67 (by decide +kernel) (by decide +kernel)), ⟨by decide, by decide⟩, by decide +kernel, ⟨fun _ => (tw 578 (by decide +kernel) (by decide +kernel)), fun h => by cases h⟩⟩
theorem seX7_miss : Cond.selects RX7 yX7_miss yX7_miss ∈ lw_good := (tw 579 (by decide +kernel) (by decide +kernel))
theorem lkX7_20 : Cond.methodLink RX7 20 yX7_solve ∈ lw_good := (tw 572 (by decide +kernel) (by decide +kernel))
theorem mvX7_solve : MV true yX7_solve cX7_solve 4 none 1 := ⟨(tw 534 (by decide +kernel) (by decide +kernel)), (tw 67 (by decide +kernel) (by decide +kernel)), ⟨by decide, by decide⟩, by decide +kernel, ⟨fun _ => (tw 532 (by decide +kernel) (by decide +kernel)), fun h => by cases h⟩⟩
theorem seX7_solve : Cond.selects RX7 yX7_solve yX7_solve ∈ lw_good := (tw 533 (by decide +kernel) (by decide +kernel))
theorem lkX7_24 : Cond.methodLink RX7 24 yX7_agree ∈ lw_good := (tw 573 (by decide +kernel) (by decide +kernel))
theorem mvX7_agree : MV true yX7_agree cX7_agree 2 (some .boolean) 0 := ⟨(tw 576 (by decide +kernel) (by decide +kernel)), (tw 67 (by decide +kernel) (by decide +kernel)), ⟨by decide, by decide⟩, by decide +kernel, ⟨fun _ => (tw 575 (by decide +kernel) (by decide +kernel)), fun h => by cases h⟩⟩
theorem seX7_agree : Cond.selects RX7 yX7_agree yX7_agree ∈ lw_good := (tw 19 (by decide +kernel) (by decide +kernel))
theorem cwJ6_265 : Cond.constant RJ6 265 (1431655765) ∈ lw_good := (tw 591 (by decide +kernel) (by decide +kernel))
theorem cwJ6_266 : Cond.constant RJ6 266 (858993459) ∈ lw_good := (tw 592 (by decide +kernel) (by decide +kernel))
theorem cwJ6_267 : Cond.constant RJ6 267 (252645135) ∈ lw_good := (tw 593 (by decide +kernel) (by decide +kernel))
theorem lkX0_29 : Cond.methodLink RX0 29 yJ6_bitCount_0f7a4 ∈ lw_good := (tw 588 (by decide +kernel) (by decide +kernel))
theorem mvJ6_bitCount_0f7a4 : MV false yJ6_bitCount_0f7a4 cJ6_bitCount_0f7a4 1 (some .int) 1 := ⟨(tw 590 (by decide +kernel) (by decide +kernel)), (tw 72 (by decide +kernel) (by decide +kernel)), ⟨by decide, by decide⟩, by decide +kernel, ⟨fun h => (by cases h), fun _ => (tw 589 (by decide +kernel) (by decide +kernel))⟩⟩
theorem lkX0_19 : Cond.methodLink RX0 19 yX0_isPart ∈ lw_good := (tw 585 (by decide +kernel) (by decide +kernel))
theorem mvX0_isPart : MV false yX0_isPart cX0_isPart 3 (some .boolean) 3 := ⟨(tw 587 (by decide +kernel) (by decide +kernel)), (tw 68 (by decide +kernel) (by decide +kernel)), ⟨by decide, by decide⟩, by decide +kernel, ⟨fun h => (by cases h), fun _ => (tw 586 (by decide +kernel) (by decide +kernel))⟩⟩
theorem lkX0_23 : Cond.methodLink RX0 23 yX7_judge ∈ lw_good := (tw 594 (by decide +kernel) (by decide +kernel))
theorem mvX7_judge : MV true yX7_judge cX7_judge 4 (some .int) 1 := ⟨(tw 571 (by decide +kernel) (by decide +kernel)), (tw 67 (by decide +kernel) (by decide +kernel)), ⟨by decide, by decide⟩, by decide +kernel, ⟨fun _ => (tw 569 (by decide +kernel) (by decide +kernel)), fun h => by cases h⟩⟩
theorem seX7_judge : Cond.selects RX7 yX7_judge yX7_judge ∈ lw_good := (tw 570 (by decide +kernel) (by decide +kernel))
theorem ffX0_78 : FF RX0 78 7 7 1 false := ⟨by decide, rfl, (RX7, TX7, 8), rfl, rfl, inG7, by decide, (tw 283 (by decide +kernel) (by decide +kernel)), rfl, rfl, nmX7, tyX7, tyX7_ok, fun h => absurd h (by decide), fun _ => rfl, fun h => absurd h (by decide)⟩
theorem cwX0_82 : Cond.constantLong RX0 82 (999999999) ∈ lw_good := (tw 612 (by decide +kernel) (by decide +kernel))
theorem lkX0_84 : Cond.methodLink RX0 84 yJ9_min_f86c9 ∈ lw_good := (tw 613 (by decide +kernel) (by decide +kernel))
theorem mvJ9_min_f86c9 : MV false yJ9_min_f86c9 cJ9_min_f86c9 4 (some .long) 2 := ⟨(tw 615 (by decide +kernel) (by decide +kernel)), (tw 70 (by decide +kernel) (by decide +kernel)), ⟨by decide, by decide⟩, by decide +kernel, ⟨fun h => (by cases h), fun _ => (tw 614 (by decide +kernel) (by decide +kernel))⟩⟩
theorem ffX0_55 : FF RX0 55 5 4 0 false := ⟨by decide, rfl, (RX5, TX5, 5), rfl, rfl, inG5, by decide, (tw 227 (by decide +kernel) (by decide +kernel)), rfl, rfl, nmX5, tyX5, tyX5_ok, fun _ => rfl, fun h => absurd h (by decide), fun h => absurd h (by decide)⟩
theorem lnX0_60 : Cond.methodLinkNest RX0 60 yX9_holds "StrokeSeek" ∈ lw_nw := tn 604 (by decide +kernel) (by decide +kernel)
theorem lkX0_64 : Cond.methodLink RX0 64 yX7_miss ∈ lw_good := (tw 605 (by decide +kernel) (by decide +kernel))
theorem lkX0_68 : Cond.methodLink RX0 68 yJ9_abs_067f4 ∈ lw_good := (tw 606 (by decide +kernel) (by decide +kernel))
theorem mvJ9_abs_067f4 : MV false yJ9_abs_067f4 cJ9_abs_067f4 2 (some .long) 1 := ⟨(tw 608 (by decide +kernel) (by decide +kernel)), (tw 70 (by decide +kernel) (by decide +kernel)), ⟨by decide, by decide⟩, by decide +kernel, ⟨fun h => (by cases h), fun _ => (tw 607 (by decide +kernel) (by decide +kernel))⟩⟩
theorem lkX0_74 : Cond.methodLink RX0 74 yJ9_max_f86c9 ∈ lw_good := (tw 609 (by decide +kernel) (by decide +kernel))
theorem mvJ9_max_f86c9 : MV false yJ9_max_f86c9 cJ9_max_f86c9 4 (some .long) 2 := ⟨(tw 611 (by decide +kernel) (by decide +kernel)), (tw 70 (by decide +kernel) (by decide +kernel)), ⟨by decide, by decide⟩, by decide +kernel, ⟨fun h => (by cases h), fun _ => (tw 610 (by decide +kernel) (by decide +kernel))⟩⟩
theorem ffX0_34 : FF RX0 34 0 2 0 false := ⟨by decide, rfl, (RX0, TX0, 6), rfl, rfl, inG0, by decide, (tw 311 (by decide +kernel) (by decide +kernel)), rfl, rfl, nmX0, tyX0, tyX0_ok, fun _ => rfl, fun h => absurd h (by decide), fun h => absurd h (by decide)⟩
theorem ffX0_38 : FF RX0 38 0 3 0 false := ⟨by decide, rfl, (RX0, TX0, 6), rfl, rfl, inG0, by decide, (tw 313 (by decide +kernel) (by decide +kernel)), rfl, rfl, nmX0, tyX0, tyX0_ok, fun _ => rfl, fun h => absurd h (by decide), fun h => absurd h (by decide)⟩
theorem lkX0_41 : Cond.methodLink RX0 41 yX7_solve ∈ lw_good := (tw 599 (by decide +kernel) (by decide +kernel))
theorem ffX0_45 : FF RX0 45 7 3 0 false := ⟨by decide, rfl, (RX7, TX7, 8), rfl, rfl, inG7, by decide, (tw 274 (by decide +kernel) (by decide +kernel)), rfl, rfl, nmX7, tyX7, tyX7_ok, fun _ => rfl, fun h => absurd h (by decide), fun h => absurd h (by decide)⟩
theorem lkX0_48 : Cond.methodLink RX0 48 yX0_worstOf ∈ lw_good := (tw 600 (by decide +kernel) (by decide +kernel))
theorem mvX0_worstOf : MV true yX0_worstOf cX0_worstOf 6 (some .int) 1 := ⟨(tw 603 (by decide +kernel) (by decide +kernel)), (tw 68 (by decide +kernel) (by decide +kernel)), ⟨by decide, by decide⟩, by decide +kernel, ⟨fun _ => (tw 602 (by decide +kernel) (by decide +kernel)), fun h => by cases h⟩⟩
theorem seX0_worstOf : Cond.selects RX0 yX0_worstOf yX0_worstOf ∈ lw_good := (tw 20 (by decide +kernel) (by decide +kernel))
theorem lkX0_51 : Cond.methodLink RX0 51 yX0_offerFour ∈ lw_good := (tw 616 (by decide +kernel) (by decide +kernel))
theorem mvX0_offerFour : MV true yX0_offerFour cX0_offerFour 3 none 2 := ⟨(tw 619 (by decide +kernel) (by decide +kernel)), (tw 68 (by decide +kernel) (by decide +kernel)), ⟨by decide, by decide⟩, by decide +kernel, ⟨fun _ => (tw 618 (by decide +kernel) (by decide +kernel)), fun h => by cases h⟩⟩
theorem seX0_offerFour : Cond.selects RX0 yX0_offerFour yX0_offerFour ∈ lw_good := (tw 21 (by decide +kernel) (by decide +kernel))
theorem ffX0_100 : FF RX0 100 5 1 2 true := ⟨by decide, rfl, (RX5, TX5, 5), rfl, rfl, inG5, by decide, (tw 215 (by decide +kernel) (by decide +kernel)), rfl, rfl, nmX5, tyX5, tyX5_ok, fun h => absurd h (by decide), fun h => absurd h (by decide), fun _ => rfl⟩
theorem ffX0_104 : FF RX0 104 5 2 2 true := ⟨by decide, rfl, (RX5, TX5, 5), rfl, rfl, inG5, by decide, (tw 219 (by decide +kernel) (by decide +kernel)), rfl, rfl, nmX5, tyX5, tyX5_ok, fun h => absurd h (by decide), fun h => absurd h (by decide), fun _ => rfl⟩
theorem lnX0_107 : Cond.methodLinkNest RX0 107 yX9_wholeWay "StrokeSeek" ∈ lw_nw := tn 628 (by decide +kernel) (by decide +kernel)
theorem mvX9_wholeWay : MV false yX9_wholeWay cX9_wholeWay 4 (some .int) 2 := ⟨(tw 630 (by decide +kernel) (by decide +kernel)), (tw 59 (by decide +kernel) (by decide +kernel)), ⟨by decide, by decide⟩, by decide +kernel, ⟨fun h => (by cases h), fun _ => (tw 629 (by decide +kernel) (by decide +kernel))⟩⟩
theorem ffX0_111 : FF RX0 111 5 3 2 true := ⟨by decide, rfl, (RX5, TX5, 5), rfl, rfl, inG5, by decide, (tw 223 (by decide +kernel) (by decide +kernel)), rfl, rfl, nmX5, tyX5, tyX5_ok, fun h => absurd h (by decide), fun h => absurd h (by decide), fun _ => rfl⟩
theorem ffX0_87 : FF RX0 87 0 4 0 false := ⟨by decide, rfl, (RX0, TX0, 6), rfl, rfl, inG0, by decide, (tw 315 (by decide +kernel) (by decide +kernel)), rfl, rfl, nmX0, tyX0, tyX0_ok, fun _ => rfl, fun h => absurd h (by decide), fun h => absurd h (by decide)⟩
theorem lkX0_93 : Cond.methodLink RX0 93 yX0_strokeTime ∈ lw_good := (tw 624 (by decide +kernel) (by decide +kernel))
theorem mvX0_strokeTime : MV true yX0_strokeTime cX0_strokeTime 8 (some .int) 3 := ⟨(tw 627 (by decide +kernel) (by decide +kernel)), (tw 68 (by decide +kernel) (by decide +kernel)), ⟨by decide, by decide⟩, by decide +kernel, ⟨fun _ => (tw 626 (by decide +kernel) (by decide +kernel)), fun h => by cases h⟩⟩
theorem seX0_strokeTime : Cond.selects RX0 yX0_strokeTime yX0_strokeTime ∈ lw_good := (tw 22 (by decide +kernel) (by decide +kernel))
theorem lnX0_97 : Cond.methodLinkNest RX0 97 yX9_within "StrokeSeek" ∈ lw_nw := tn 631 (by decide +kernel) (by decide +kernel)
theorem ffX0_90 : FF RX0 90 0 5 0 false := ⟨by decide, rfl, (RX0, TX0, 6), rfl, rfl, inG0, by decide, (tw 317 (by decide +kernel) (by decide +kernel)), rfl, rfl, nmX0, tyX0, tyX0_ok, fun _ => rfl, fun h => absurd h (by decide), fun h => absurd h (by decide)⟩
theorem ffX9_160 : FF RX9 160 1 2 0 false := ⟨by decide, rfl, (RX1, TX1, 4), rfl, rfl, inG1, by decide, (tw 251 (by decide +kernel) (by decide +kernel)), rfl, rfl, nmX1, tyX1, tyX1_ok, fun _ => rfl, fun h => absurd h (by decide), fun h => absurd h (by decide)⟩
theorem ffX9_161 : FF RX9 161 1 0 2 true := ⟨by decide, rfl, (RX1, TX1, 4), rfl, rfl, inG1, by decide, (tw 247 (by decide +kernel) (by decide +kernel)), rfl, rfl, nmX1, tyX1, tyX1_ok, fun h => absurd h (by decide), fun h => absurd h (by decide), fun _ => rfl⟩
theorem lkX9_164 : Cond.methodLink RX9 164 yX7_solve ∈ lw_good := (tw 531 (by decide +kernel) (by decide +kernel))
theorem ffX9_167 : FF RX9 167 7 3 0 false := ⟨by decide, rfl, (RX7, TX7, 8), rfl, rfl, inG7, by decide, (tw 275 (by decide +kernel) (by decide +kernel)), rfl, rfl, nmX7, tyX7, tyX7_ok, fun _ => rfl, fun h => absurd h (by decide), fun h => absurd h (by decide)⟩
theorem lkX9_170 : Cond.methodLink RX9 170 yX7_judge ∈ lw_good := (tw 568 (by decide +kernel) (by decide +kernel))
theorem lkX9_174 : Cond.methodLink RX9 174 yX0_leastOut ∈ lw_good := (tw 581 (by decide +kernel) (by decide +kernel))
theorem mvX0_leastOut : MV true yX0_leastOut cX0_leastOut 4 (some .int) 1 := ⟨(tw 584 (by decide +kernel) (by decide +kernel)), (tw 68 (by decide +kernel) (by decide +kernel)), ⟨by decide, by decide⟩, by decide +kernel, ⟨fun _ => (tw 582 (by decide +kernel) (by decide +kernel)), fun h => by cases h⟩⟩
theorem seX0_leastOut : Cond.selects RX0 yX0_leastOut yX0_leastOut ∈ lw_good := (tw 583 (by decide +kernel) (by decide +kernel))
theorem lkX9_177 : Cond.methodLink RX9 177 yX0_seekFour ∈ lw_good := (tw 595 (by decide +kernel) (by decide +kernel))
theorem mvX0_seekFour : MV true yX0_seekFour cX0_seekFour 3 none 1 := ⟨(tw 598 (by decide +kernel) (by decide +kernel)), (tw 68 (by decide +kernel) (by decide +kernel)), ⟨by decide, by decide⟩, by decide +kernel, ⟨fun _ => (tw 596 (by decide +kernel) (by decide +kernel)), fun h => by cases h⟩⟩
theorem seX0_seekFour : Cond.selects RX0 yX0_seekFour yX0_seekFour ∈ lw_good := (tw 597 (by decide +kernel) (by decide +kernel))
theorem ffX9_180 : FF RX9 180 0 2 0 false := ⟨by decide, rfl, (RX0, TX0, 6), rfl, rfl, inG0, by decide, (tw 312 (by decide +kernel) (by decide +kernel)), rfl, rfl, nmX0, tyX0, tyX0_ok, fun _ => rfl, fun h => absurd h (by decide), fun h => absurd h (by decide)⟩
theorem ffX9_183 : FF RX9 183 0 3 0 false := ⟨by decide, rfl, (RX0, TX0, 6), rfl, rfl, inG0, by decide, (tw 314 (by decide +kernel) (by decide +kernel)), rfl, rfl, nmX0, tyX0, tyX0_ok, fun _ => rfl, fun h => absurd h (by decide), fun h => absurd h (by decide)⟩
theorem lkX9_186 : Cond.methodLink RX9 186 yX0_seekPlaces ∈ lw_good := (tw 620 (by decide +kernel) (by decide +kernel))
theorem mvX0_seekPlaces : MV true yX0_seekPlaces cX0_seekPlaces 5 none 1 := ⟨(tw 623 (by decide +kernel) (by decide +kernel)), (tw 68 (by decide +kernel) (by decide +kernel)), ⟨by decide, by decide⟩, by decide +kernel, ⟨fun _ => (tw 621 (by decide +kernel) (by decide +kernel)), fun h => by cases h⟩⟩
theorem seX0_seekPlaces : Cond.selects RX0 yX0_seekPlaces yX0_seekPlaces ∈ lw_good := (tw 622 (by decide +kernel) (by decide +kernel))
theorem ffX9_189 : FF RX9 189 0 4 0 false := ⟨by decide, rfl, (RX0, TX0, 6), rfl, rfl, inG0, by decide, (tw 316 (by decide +kernel) (by decide +kernel)), rfl, rfl, nmX0, tyX0, tyX0_ok, fun _ => rfl, fun h => absurd h (by decide), fun h => absurd h (by decide)⟩
theorem ffX9_192 : FF RX9 192 0 5 0 false := ⟨by decide, rfl, (RX0, TX0, 6), rfl, rfl, inG0, by decide, (tw 318 (by decide +kernel) (by decide +kernel)), rfl, rfl, nmX0, tyX0, tyX0_ok, fun _ => rfl, fun h => absurd h (by decide), fun h => absurd h (by decide)⟩
theorem lkX9_242 : Cond.methodLink RX9 242 yJ9_abs_067f4 ∈ lw_good := (tw 642 (by decide +kernel) (by decide +kernel))
theorem lkX9_248 : Cond.methodLink RX9 248 yX9_commonDivisor ∈ lw_good := (tw 639 (by decide +kernel) (by decide +kernel))
theorem mvX9_commonDivisor : MV false yX9_commonDivisor cX9_commonDivisor 11 (some .long) 2 := ⟨(tw 641 (by decide +kernel) (by decide +kernel)), (tw 59 (by decide +kernel) (by decide +kernel)), ⟨by decide, by decide⟩, by decide +kernel, ⟨fun h => (by cases h), fun _ => (tw 640 (by decide +kernel) (by decide +kernel))⟩⟩
theorem ffX9_195 : FF RX9 195 7 4 1 false := ⟨by decide, rfl, (RX7, TX7, 8), rfl, rfl, inG7, by decide, (tw 277 (by decide +kernel) (by decide +kernel)), rfl, rfl, nmX7, tyX7, tyX7_ok, fun h => absurd h (by decide), fun _ => rfl, fun h => absurd h (by decide)⟩
theorem ffX9_198 : FF RX9 198 7 7 1 false := ⟨by decide, rfl, (RX7, TX7, 8), rfl, rfl, inG7, by decide, (tw 284 (by decide +kernel) (by decide +kernel)), rfl, rfl, nmX7, tyX7, tyX7_ok, fun h => absurd h (by decide), fun _ => rfl, fun h => absurd h (by decide)⟩
theorem lkX9_201 : Cond.methodLink RX9 201 yX9_upper ∈ lw_good := (tw 636 (by decide +kernel) (by decide +kernel))
theorem mvX9_upper : MV false yX9_upper cX9_upper 6 (some .int) 2 := ⟨(tw 638 (by decide +kernel) (by decide +kernel)), (tw 59 (by decide +kernel) (by decide +kernel)), ⟨by decide, by decide⟩, by decide +kernel, ⟨fun h => (by cases h), fun _ => (tw 637 (by decide +kernel) (by decide +kernel))⟩⟩
theorem lkX9_205 : Cond.methodLink RX9 205 yX9_lower ∈ lw_good := (tw 643 (by decide +kernel) (by decide +kernel))
theorem mvX9_lower : MV false yX9_lower cX9_lower 6 (some .int) 2 := ⟨(tw 645 (by decide +kernel) (by decide +kernel)), (tw 59 (by decide +kernel) (by decide +kernel)), ⟨by decide, by decide⟩, by decide +kernel, ⟨fun h => (by cases h), fun _ => (tw 644 (by decide +kernel) (by decide +kernel))⟩⟩
theorem ffX9_207 : FF RX9 207 7 5 1 false := ⟨by decide, rfl, (RX7, TX7, 8), rfl, rfl, inG7, by decide, (tw 279 (by decide +kernel) (by decide +kernel)), rfl, rfl, nmX7, tyX7, tyX7_ok, fun h => absurd h (by decide), fun _ => rfl, fun h => absurd h (by decide)⟩
theorem ffX9_209 : FF RX9 209 7 6 1 false := ⟨by decide, rfl, (RX7, TX7, 8), rfl, rfl, inG7, by decide, (tw 281 (by decide +kernel) (by decide +kernel)), rfl, rfl, nmX7, tyX7, tyX7_ok, fun h => absurd h (by decide), fun _ => rfl, fun h => absurd h (by decide)⟩
theorem lkX9_216 : Cond.methodLink RX9 216 yX9_wholeWay ∈ lw_good := (tw 654 (by decide +kernel) (by decide +kernel))
theorem lkX9_219 : Cond.methodLink RX9 219 yX9_toldAt ∈ lw_good := (tw 655 (by decide +kernel) (by decide +kernel))
theorem mvX9_toldAt : MV false yX9_toldAt cX9_toldAt 2 (some .int) 2 := ⟨(tw 657 (by decide +kernel) (by decide +kernel)), (tw 59 (by decide +kernel) (by decide +kernel)), ⟨by decide, by decide⟩, by decide +kernel, ⟨fun h => (by cases h), fun _ => (tw 656 (by decide +kernel) (by decide +kernel))⟩⟩
theorem lnX0_114 : Cond.methodLinkNest RX0 114 yX9_power "StrokeSeek" ∈ lw_nw := tn 670 (by decide +kernel) (by decide +kernel)
theorem mvX9_power : MV false yX9_power cX9_power 5 (some .long) 2 := ⟨(tw 665 (by decide +kernel) (by decide +kernel)), (tw 59 (by decide +kernel) (by decide +kernel)), ⟨by decide, by decide⟩, by decide +kernel, ⟨fun h => (by cases h), fun _ => (tw 664 (by decide +kernel) (by decide +kernel))⟩⟩
theorem lkX9_222 : Cond.methodLink RX9 222 yJ6_bitCount_0f7a4 ∈ lw_good := (tw 662 (by decide +kernel) (by decide +kernel))
theorem lkX9_227 : Cond.methodLink RX9 227 yX9_power ∈ lw_good := (tw 663 (by decide +kernel) (by decide +kernel))
theorem lkX9_231 : Cond.methodLink RX9 231 yX0_sureCases ∈ lw_good := (tw 666 (by decide +kernel) (by decide +kernel))
theorem mvX0_sureCases : MV true yX0_sureCases cX0_sureCases 8 (some .long) 2 := ⟨(tw 669 (by decide +kernel) (by decide +kernel)), (tw 68 (by decide +kernel) (by decide +kernel)), ⟨by decide, by decide⟩, by decide +kernel, ⟨fun _ => (tw 667 (by decide +kernel) (by decide +kernel)), fun h => by cases h⟩⟩
theorem seX0_sureCases : Cond.selects RX0 yX0_sureCases yX0_sureCases ∈ lw_good := (tw 668 (by decide +kernel) (by decide +kernel))
theorem lkX9_235 : Cond.methodLink RX9 235 yX9_sureGroups ∈ lw_good := (tw 683 (by decide +kernel) (by decide +kernel))
theorem mvX9_sureGroups : MV true yX9_sureGroups cX9_sureGroups 3 (some .int) 0 := ⟨(tw 686 (by decide +kernel) (by decide +kernel)), (tw 59 (by decide +kernel) (by decide +kernel)), ⟨by decide, by decide⟩, by decide +kernel, ⟨fun _ => (tw 685 (by decide +kernel) (by decide +kernel)), fun h => by cases h⟩⟩
theorem seX9_sureGroups : Cond.selects RX9 yX9_sureGroups yX9_sureGroups ∈ lw_good := (tw 23 (by decide +kernel) (by decide +kernel))
theorem lkX10_1 : Cond.methodLink RX10 1 Lib.objectInit ∈ lw_good := (tw 692 (by decide +kernel) (by decide +kernel))
theorem ffX10_7 : FF RX10 7 10 1 2 true := ⟨by decide, rfl, (RX10, TX10, 31), rfl, rfl, inG10, by decide, (tw 694 (by decide +kernel) (by decide +kernel)), rfl, rfl, nmX10, tyX10, tyX10_ok, fun h => absurd h (by decide), fun h => absurd h (by decide), fun _ => rfl⟩
theorem ffX10_13 : FF RX10 13 10 2 2 true := ⟨by decide, rfl, (RX10, TX10, 31), rfl, rfl, inG10, by decide, (tw 695 (by decide +kernel) (by decide +kernel)), rfl, rfl, nmX10, tyX10, tyX10_ok, fun h => absurd h (by decide), fun h => absurd h (by decide), fun _ => rfl⟩
theorem ffX10_16 : FF RX10 16 10 3 2 true := ⟨by decide, rfl, (RX10, TX10, 31), rfl, rfl, inG10, by decide, (tw 696 (by decide +kernel) (by decide +kernel)), rfl, rfl, nmX10, tyX10, tyX10_ok, fun h => absurd h (by decide), fun h => absurd h (by decide), fun _ => rfl⟩
theorem ffX10_19 : FF RX10 19 10 6 2 true := ⟨by decide, rfl, (RX10, TX10, 31), rfl, rfl, inG10, by decide, (tw 699 (by decide +kernel) (by decide +kernel)), rfl, rfl, nmX10, tyX10, tyX10_ok, fun h => absurd h (by decide), fun h => absurd h (by decide), fun _ => rfl⟩
theorem ffX10_22 : FF RX10 22 10 7 2 true := ⟨by decide, rfl, (RX10, TX10, 31), rfl, rfl, inG10, by decide, (tw 700 (by decide +kernel) (by decide +kernel)), rfl, rfl, nmX10, tyX10, tyX10_ok, fun h => absurd h (by decide), fun h => absurd h (by decide), fun _ => rfl⟩
theorem ffX10_26 : FF RX10 26 10 8 2 true := ⟨by decide, rfl, (RX10, TX10, 31), rfl, rfl, inG10, by decide, (tw 701 (by decide +kernel) (by decide +kernel)), rfl, rfl, nmX10, tyX10, tyX10_ok, fun h => absurd h (by decide), fun h => absurd h (by decide), fun _ => rfl⟩
theorem ffX10_29 : FF RX10 29 10 10 2 true := ⟨by decide, rfl, (RX10, TX10, 31), rfl, rfl, inG10, by decide, (tw 703 (by decide +kernel) (by decide +kernel)), rfl, rfl, nmX10, tyX10, tyX10_ok, fun h => absurd h (by decide), fun h => absurd h (by decide), fun _ => rfl⟩
theorem ffX10_32 : FF RX10 32 10 17 2 true := ⟨by decide, rfl, (RX10, TX10, 31), rfl, rfl, inG10, by decide, (tw 710 (by decide +kernel) (by decide +kernel)), rfl, rfl, nmX10, tyX10, tyX10_ok, fun h => absurd h (by decide), fun h => absurd h (by decide), fun _ => rfl⟩
theorem ffX10_35 : FF RX10 35 10 18 2 true := ⟨by decide, rfl, (RX10, TX10, 31), rfl, rfl, inG10, by decide, (tw 711 (by decide +kernel) (by decide +kernel)), rfl, rfl, nmX10, tyX10, tyX10_ok, fun h => absurd h (by decide), fun h => absurd h (by decide), fun _ => rfl⟩
theorem ffX10_38 : FF RX10 38 10 19 2 true := ⟨by decide, rfl, (RX10, TX10, 31), rfl, rfl, inG10, by decide, (tw 712 (by decide +kernel) (by decide +kernel)), rfl, rfl, nmX10, tyX10, tyX10_ok, fun h => absurd h (by decide), fun h => absurd h (by decide), fun _ => rfl⟩
theorem ffX10_41 : FF RX10 41 10 21 2 true := ⟨by decide, rfl, (RX10, TX10, 31), rfl, rfl, inG10, by decide, (tw 714 (by decide +kernel) (by decide +kernel)), rfl, rfl, nmX10, tyX10, tyX10_ok, fun h => absurd h (by decide), fun h => absurd h (by decide), fun _ => rfl⟩
theorem ffX10_44 : FF RX10 44 10 23 2 true := ⟨by decide, rfl, (RX10, TX10, 31), rfl, rfl, inG10, by decide, (tw 716 (by decide +kernel) (by decide +kernel)), rfl, rfl, nmX10, tyX10, tyX10_ok, fun h => absurd h (by decide), fun h => absurd h (by decide), fun _ => rfl⟩
theorem lkX10_48 : Cond.methodLink RX10 48 yX10_in ∈ lw_good := (tw 791 (by decide +kernel) (by decide +kernel))
theorem mvX10_in : MV false yX10_in cX10_in 3 (some .boolean) 3 := ⟨(tw 793 (by decide +kernel) (by decide +kernel)), (tw 69 (by decide +kernel) (by decide +kernel)), ⟨by decide, by decide⟩, by decide +kernel, ⟨fun h => (by cases h), fun _ => (tw 792 (by decide +kernel) (by decide +kernel))⟩⟩
theorem ffX10_52 : FF RX10 52 10 9 0 false := ⟨by decide, rfl, (RX10, TX10, 31), rfl, rfl, inG10, by decide, (tw 702 (by decide +kernel) (by decide +kernel)), rfl, rfl, nmX10, tyX10, tyX10_ok, fun _ => rfl, fun h => absurd h (by decide), fun h => absurd h (by decide)⟩
theorem ffX10_56 : FF RX10 56 10 11 0 false := ⟨by decide, rfl, (RX10, TX10, 31), rfl, rfl, inG10, by decide, (tw 704 (by decide +kernel) (by decide +kernel)), rfl, rfl, nmX10, tyX10, tyX10_ok, fun _ => rfl, fun h => absurd h (by decide), fun h => absurd h (by decide)⟩
theorem ffX10_72 : FF RX10 72 10 14 0 false := ⟨by decide, rfl, (RX10, TX10, 31), rfl, rfl, inG10, by decide, (tw 707 (by decide +kernel) (by decide +kernel)), rfl, rfl, nmX10, tyX10, tyX10_ok, fun _ => rfl, fun h => absurd h (by decide), fun h => absurd h (by decide)⟩
theorem ffX10_65 : FF RX10 65 10 13 0 false := ⟨by decide, rfl, (RX10, TX10, 31), rfl, rfl, inG10, by decide, (tw 706 (by decide +kernel) (by decide +kernel)), rfl, rfl, nmX10, tyX10, tyX10_ok, fun _ => rfl, fun h => absurd h (by decide), fun h => absurd h (by decide)⟩
theorem ffX10_62 : FF RX10 62 10 12 0 false := ⟨by decide, rfl, (RX10, TX10, 31), rfl, rfl, inG10, by decide, (tw 705 (by decide +kernel) (by decide +kernel)), rfl, rfl, nmX10, tyX10, tyX10_ok, fun _ => rfl, fun h => absurd h (by decide), fun h => absurd h (by decide)⟩
theorem lkX10_68 : Cond.methodLink RX10 68 yX10_isFigure ∈ lw_good := (tw 810 (by decide +kernel) (by decide +kernel))
theorem mvX10_isFigure : MV true yX10_isFigure cX10_isFigure 1 (some .boolean) 0 := ⟨(tw 813 (by decide +kernel) (by decide +kernel)), (tw 69 (by decide +kernel) (by decide +kernel)), ⟨by decide, by decide⟩, by decide +kernel, ⟨fun _ => (tw 812 (by decide +kernel) (by decide +kernel)), fun h => by cases h⟩⟩
theorem seX10_isFigure : Cond.selects RX10 yX10_isFigure yX10_isFigure ∈ lw_good := (tw 26 (by decide +kernel) (by decide +kernel))
theorem lkX10_59 : Cond.methodLink RX10 59 yX10_blanks ∈ lw_good := (tw 802 (by decide +kernel) (by decide +kernel))
theorem mvX10_blanks : MV true yX10_blanks cX10_blanks 1 none 0 := ⟨(tw 805 (by decide +kernel) (by decide +kernel)), (tw 69 (by decide +kernel) (by decide +kernel)), ⟨by decide, by decide⟩, by decide +kernel, ⟨fun _ => (tw 804 (by decide +kernel) (by decide +kernel)), fun h => by cases h⟩⟩
theorem seX10_blanks : Cond.selects RX10 yX10_blanks yX10_blanks ∈ lw_good := (tw 24 (by decide +kernel) (by decide +kernel))
theorem ffX10_75 : FF RX10 75 10 15 0 false := ⟨by decide, rfl, (RX10, TX10, 31), rfl, rfl, inG10, by decide, (tw 708 (by decide +kernel) (by decide +kernel)), rfl, rfl, nmX10, tyX10, tyX10_ok, fun _ => rfl, fun h => absurd h (by decide), fun h => absurd h (by decide)⟩
theorem lkX10_81 : Cond.methodLink RX10 81 yX10_fails ∈ lw_good := (tw 818 (by decide +kernel) (by decide +kernel))
theorem mvX10_fails : MV true yX10_fails cX10_fails 1 (some .boolean) 0 := ⟨(tw 821 (by decide +kernel) (by decide +kernel)), (tw 69 (by decide +kernel) (by decide +kernel)), ⟨by decide, by decide⟩, by decide +kernel, ⟨fun _ => (tw 820 (by decide +kernel) (by decide +kernel)), fun h => by cases h⟩⟩
theorem seX10_fails : Cond.selects RX10 yX10_fails yX10_fails ∈ lw_good := (tw 28 (by decide +kernel) (by decide +kernel))
theorem lkX10_78 : Cond.methodLink RX10 78 yX10_next ∈ lw_good := (tw 806 (by decide +kernel) (by decide +kernel))
theorem mvX10_next : MV true yX10_next cX10_next 1 none 0 := ⟨(tw 809 (by decide +kernel) (by decide +kernel)), (tw 69 (by decide +kernel) (by decide +kernel)), ⟨by decide, by decide⟩, by decide +kernel, ⟨fun _ => (tw 808 (by decide +kernel) (by decide +kernel)), fun h => by cases h⟩⟩
theorem seX10_next : Cond.selects RX10 yX10_next yX10_next ∈ lw_good := (tw 25 (by decide +kernel) (by decide +kernel))
theorem ffX10_84 : FF RX10 84 10 16 0 false := ⟨by decide, rfl, (RX10, TX10, 31), rfl, rfl, inG10, by decide, (tw 709 (by decide +kernel) (by decide +kernel)), rfl, rfl, nmX10, tyX10, tyX10_ok, fun _ => rfl, fun h => absurd h (by decide), fun h => absurd h (by decide)⟩
theorem lkX10_87 : Cond.methodLink RX10 87 yX10_number ∈ lw_good := (tw 822 (by decide +kernel) (by decide +kernel))
theorem mvX10_number : MV true yX10_number cX10_number 2 (some .boolean) 1 := ⟨(tw 825 (by decide +kernel) (by decide +kernel)), (tw 69 (by decide +kernel) (by decide +kernel)), ⟨by decide, by decide⟩, by decide +kernel, ⟨fun _ => (tw 824 (by decide +kernel) (by decide +kernel)), fun h => by cases h⟩⟩
theorem seX10_number : Cond.selects RX10 yX10_number yX10_number ∈ lw_good := (tw 29 (by decide +kernel) (by decide +kernel))
theorem lkX10_91 : Cond.methodLink RX10 91 yX10_clockOf ∈ lw_good := (tw 826 (by decide +kernel) (by decide +kernel))
theorem mvX10_clockOf : MV false yX10_clockOf cX10_clockOf 1 (some .int) 1 := ⟨(tw 828 (by decide +kernel) (by decide +kernel)), (tw 69 (by decide +kernel) (by decide +kernel)), ⟨by decide, by decide⟩, by decide +kernel, ⟨fun h => (by cases h), fun _ => (tw 827 (by decide +kernel) (by decide +kernel))⟩⟩
theorem lkX10_95 : Cond.methodLink RX10 95 yX10_ends ∈ lw_good := (tw 829 (by decide +kernel) (by decide +kernel))
theorem mvX10_ends : MV true yX10_ends cX10_ends 1 (some .boolean) 0 := ⟨(tw 832 (by decide +kernel) (by decide +kernel)), (tw 69 (by decide +kernel) (by decide +kernel)), ⟨by decide, by decide⟩, by decide +kernel, ⟨fun _ => (tw 831 (by decide +kernel) (by decide +kernel)), fun h => by cases h⟩⟩
theorem seX10_ends : Cond.selects RX10 yX10_ends yX10_ends ∈ lw_good := (tw 30 (by decide +kernel) (by decide +kernel))
theorem ffX10_107 : FF RX10 107 10 4 0 false := ⟨by decide, rfl, (RX10, TX10, 31), rfl, rfl, inG10, by decide, (tw 697 (by decide +kernel) (by decide +kernel)), rfl, rfl, nmX10, tyX10, tyX10_ok, fun _ => rfl, fun h => absurd h (by decide), fun h => absurd h (by decide)⟩
theorem ffX10_104 : FF RX10 104 10 0 0 false := ⟨by decide, rfl, (RX10, TX10, 31), rfl, rfl, inG10, by decide, (tw 693 (by decide +kernel) (by decide +kernel)), rfl, rfl, nmX10, tyX10, tyX10_ok, fun _ => rfl, fun h => absurd h (by decide), fun h => absurd h (by decide)⟩
theorem lkX10_101 : Cond.methodLink RX10 101 yX10_readsReading ∈ lw_good := (tw 833 (by decide +kernel) (by decide +kernel))
theorem mvX10_readsReading : MV true yX10_readsReading cX10_readsReading 1 (some .boolean) 0 := ⟨(tw 836 (by decide +kernel) (by decide +kernel)), (tw 69 (by decide +kernel) (by decide +kernel)), ⟨by decide, by decide⟩, by decide +kernel, ⟨fun _ => (tw 835 (by decide +kernel) (by decide +kernel)), fun h => by cases h⟩⟩
theorem seX10_readsReading : Cond.selects RX10 yX10_readsReading yX10_readsReading ∈ lw_good := (tw 31 (by decide +kernel) (by decide +kernel))
theorem lkX10_98 : Cond.methodLink RX10 98 yX10_readsStation ∈ lw_good := (tw 814 (by decide +kernel) (by decide +kernel))
theorem mvX10_readsStation : MV true yX10_readsStation cX10_readsStation 1 (some .boolean) 0 := ⟨(tw 817 (by decide +kernel) (by decide +kernel)), (tw 69 (by decide +kernel) (by decide +kernel)), ⟨by decide, by decide⟩, by decide +kernel, ⟨fun _ => (tw 816 (by decide +kernel) (by decide +kernel)), fun h => by cases h⟩⟩
theorem seX10_readsStation : Cond.selects RX10 yX10_readsStation yX10_readsStation ∈ lw_good := (tw 27 (by decide +kernel) (by decide +kernel))
theorem lkX10_138 : Cond.methodLink RX10 138 yX10_isStation ∈ lw_good := (tw 841 (by decide +kernel) (by decide +kernel))
theorem mvX10_isStation : MV true yX10_isStation cX10_isStation 2 (some .boolean) 1 := ⟨(tw 844 (by decide +kernel) (by decide +kernel)), (tw 69 (by decide +kernel) (by decide +kernel)), ⟨by decide, by decide⟩, by decide +kernel, ⟨fun _ => (tw 843 (by decide +kernel) (by decide +kernel)), fun h => by cases h⟩⟩
theorem seX10_isStation : Cond.selects RX10 yX10_isStation yX10_isStation ∈ lw_good := (tw 32 (by decide +kernel) (by decide +kernel))
theorem lkX10_110 : Cond.methodLink RX10 110 yX10_timeOf ∈ lw_good := (tw 854 (by decide +kernel) (by decide +kernel))
theorem mvX10_timeOf : MV true yX10_timeOf cX10_timeOf 3 (some .int) 1 := ⟨(tw 857 (by decide +kernel) (by decide +kernel)), (tw 69 (by decide +kernel) (by decide +kernel)), ⟨by decide, by decide⟩, by decide +kernel, ⟨fun _ => (tw 856 (by decide +kernel) (by decide +kernel)), fun h => by cases h⟩⟩
theorem seX10_timeOf : Cond.selects RX10 yX10_timeOf yX10_timeOf ∈ lw_good := (tw 34 (by decide +kernel) (by decide +kernel))
theorem lkX10_113 : Cond.methodLink RX10 113 yX10_square ∈ lw_good := (tw 877 (by decide +kernel) (by decide +kernel))
theorem mvX10_square : MV false yX10_square cX10_square 1 (some .int) 1 := ⟨(tw 879 (by decide +kernel) (by decide +kernel)), (tw 69 (by decide +kernel) (by decide +kernel)), ⟨by decide, by decide⟩, by decide +kernel, ⟨fun h => (by cases h), fun _ => (tw 878 (by decide +kernel) (by decide +kernel))⟩⟩
theorem lkX10_116 : Cond.methodLink RX10 116 yX10_xOf ∈ lw_good := (tw 880 (by decide +kernel) (by decide +kernel))
theorem mvX10_xOf : MV true yX10_xOf cX10_xOf 2 (some .int) 1 := ⟨(tw 883 (by decide +kernel) (by decide +kernel)), (tw 69 (by decide +kernel) (by decide +kernel)), ⟨by decide, by decide⟩, by decide +kernel, ⟨fun _ => (tw 882 (by decide +kernel) (by decide +kernel)), fun h => by cases h⟩⟩
theorem seX10_xOf : Cond.selects RX10 yX10_xOf yX10_xOf ∈ lw_good := (tw 39 (by decide +kernel) (by decide +kernel))
theorem lkX10_119 : Cond.methodLink RX10 119 yX10_yOf ∈ lw_good := (tw 884 (by decide +kernel) (by decide +kernel))
theorem mvX10_yOf : MV true yX10_yOf cX10_yOf 2 (some .int) 1 := ⟨(tw 887 (by decide +kernel) (by decide +kernel)), (tw 69 (by decide +kernel) (by decide +kernel)), ⟨by decide, by decide⟩, by decide +kernel, ⟨fun _ => (tw 886 (by decide +kernel) (by decide +kernel)), fun h => by cases h⟩⟩
theorem seX10_yOf : Cond.selects RX10 yX10_yOf yX10_yOf ∈ lw_good := (tw 40 (by decide +kernel) (by decide +kernel))
theorem lkX10_125 : Cond.methodLink RX10 125 yX10_has ∈ lw_good := (tw 866 (by decide +kernel) (by decide +kernel))
theorem mvX10_has : MV false yX10_has cX10_has 2 (some .boolean) 2 := ⟨(tw 868 (by decide +kernel) (by decide +kernel)), (tw 69 (by decide +kernel) (by decide +kernel)), ⟨by decide, by decide⟩, by decide +kernel, ⟨fun h => (by cases h), fun _ => (tw 867 (by decide +kernel) (by decide +kernel))⟩⟩
theorem lkX10_132 : Cond.methodLink RX10 132 yX10_isTogether ∈ lw_good := (tw 873 (by decide +kernel) (by decide +kernel))
theorem mvX10_isTogether : MV true yX10_isTogether cX10_isTogether 3 (some .boolean) 2 := ⟨(tw 876 (by decide +kernel) (by decide +kernel)), (tw 69 (by decide +kernel) (by decide +kernel)), ⟨by decide, by decide⟩, by decide +kernel, ⟨fun _ => (tw 875 (by decide +kernel) (by decide +kernel)), fun h => by cases h⟩⟩
theorem seX10_isTogether : Cond.selects RX10 yX10_isTogether yX10_isTogether ∈ lw_good := (tw 38 (by decide +kernel) (by decide +kernel))
theorem ffX10_122 : FF RX10 122 10 20 0 false := ⟨by decide, rfl, (RX10, TX10, 31), rfl, rfl, inG10, by decide, (tw 713 (by decide +kernel) (by decide +kernel)), rfl, rfl, nmX10, tyX10, tyX10_ok, fun _ => rfl, fun h => absurd h (by decide), fun h => absurd h (by decide)⟩
theorem lkX10_129 : Cond.methodLink RX10 129 yX10_isAhead ∈ lw_good := (tw 869 (by decide +kernel) (by decide +kernel))
theorem mvX10_isAhead : MV true yX10_isAhead cX10_isAhead 4 (some .boolean) 2 := ⟨(tw 872 (by decide +kernel) (by decide +kernel)), (tw 69 (by decide +kernel) (by decide +kernel)), ⟨by decide, by decide⟩, by decide +kernel, ⟨fun _ => (tw 871 (by decide +kernel) (by decide +kernel)), fun h => by cases h⟩⟩
theorem seX10_isAhead : Cond.selects RX10 yX10_isAhead yX10_isAhead ∈ lw_good := (tw 37 (by decide +kernel) (by decide +kernel))
theorem lkX10_135 : Cond.methodLink RX10 135 yX10_layGroups ∈ lw_good := (tw 862 (by decide +kernel) (by decide +kernel))
theorem mvX10_layGroups : MV true yX10_layGroups cX10_layGroups 8 none 0 := ⟨(tw 865 (by decide +kernel) (by decide +kernel)), (tw 69 (by decide +kernel) (by decide +kernel)), ⟨by decide, by decide⟩, by decide +kernel, ⟨fun _ => (tw 864 (by decide +kernel) (by decide +kernel)), fun h => by cases h⟩⟩
theorem seX10_layGroups : Cond.selects RX10 yX10_layGroups yX10_layGroups ∈ lw_good := (tw 36 (by decide +kernel) (by decide +kernel))
theorem cwX10_144 : Cond.constant RX10 144 (-1000000000) ∈ lw_good := (tw 853 (by decide +kernel) (by decide +kernel))
theorem lkX10_141 : Cond.methodLink RX10 141 yX10_isReading ∈ lw_good := (tw 849 (by decide +kernel) (by decide +kernel))
theorem mvX10_isReading : MV true yX10_isReading cX10_isReading 2 (some .boolean) 1 := ⟨(tw 852 (by decide +kernel) (by decide +kernel)), (tw 69 (by decide +kernel) (by decide +kernel)), ⟨by decide, by decide⟩, by decide +kernel, ⟨fun _ => (tw 851 (by decide +kernel) (by decide +kernel)), fun h => by cases h⟩⟩
theorem seX10_isReading : Cond.selects RX10 yX10_isReading yX10_isReading ∈ lw_good := (tw 33 (by decide +kernel) (by decide +kernel))
theorem lkX10_145 : Cond.methodLink RX10 145 yX10_groupOf ∈ lw_good := (tw 858 (by decide +kernel) (by decide +kernel))
theorem mvX10_groupOf : MV true yX10_groupOf cX10_groupOf 3 (some .int) 1 := ⟨(tw 861 (by decide +kernel) (by decide +kernel)), (tw 69 (by decide +kernel) (by decide +kernel)), ⟨by decide, by decide⟩, by decide +kernel, ⟨fun _ => (tw 860 (by decide +kernel) (by decide +kernel)), fun h => by cases h⟩⟩
theorem seX10_groupOf : Cond.selects RX10 yX10_groupOf yX10_groupOf ∈ lw_good := (tw 35 (by decide +kernel) (by decide +kernel))
theorem ffX10_148 : FF RX10 148 10 5 0 false := ⟨by decide, rfl, (RX10, TX10, 31), rfl, rfl, inG10, by decide, (tw 698 (by decide +kernel) (by decide +kernel)), rfl, rfl, nmX10, tyX10, tyX10_ok, fun _ => rfl, fun h => absurd h (by decide), fun h => absurd h (by decide)⟩
theorem lkX10_151 : Cond.methodLink RX10 151 yX10_remember ∈ lw_good := (tw 892 (by decide +kernel) (by decide +kernel))
theorem mvX10_remember : MV true yX10_remember cX10_remember 2 none 0 := ⟨(tw 895 (by decide +kernel) (by decide +kernel)), (tw 69 (by decide +kernel) (by decide +kernel)), ⟨by decide, by decide⟩, by decide +kernel, ⟨fun _ => (tw 894 (by decide +kernel) (by decide +kernel)), fun h => by cases h⟩⟩
theorem seX10_remember : Cond.selects RX10 yX10_remember yX10_remember ∈ lw_good := (tw 41 (by decide +kernel) (by decide +kernel))
theorem ffX10_154 : FF RX10 154 10 22 0 false := ⟨by decide, rfl, (RX10, TX10, 31), rfl, rfl, inG10, by decide, (tw 715 (by decide +kernel) (by decide +kernel)), rfl, rfl, nmX10, tyX10, tyX10_ok, fun _ => rfl, fun h => absurd h (by decide), fun h => absurd h (by decide)⟩
theorem lkX10_157 : Cond.methodLink RX10 157 yX10_firstOf ∈ lw_good := (tw 924 (by decide +kernel) (by decide +kernel))
theorem mvX10_firstOf : MV true yX10_firstOf cX10_firstOf 3 (some .int) 1 := ⟨(tw 927 (by decide +kernel) (by decide +kernel)), (tw 69 (by decide +kernel) (by decide +kernel)), ⟨by decide, by decide⟩, by decide +kernel, ⟨fun _ => (tw 926 (by decide +kernel) (by decide +kernel)), fun h => by cases h⟩⟩
theorem seX10_firstOf : Cond.selects RX10 yX10_firstOf yX10_firstOf ∈ lw_good := (tw 45 (by decide +kernel) (by decide +kernel))
theorem lkX10_160 : Cond.methodLink RX10 160 yX10_cellAt ∈ lw_good := (tw 928 (by decide +kernel) (by decide +kernel))
theorem mvX10_cellAt : MV true yX10_cellAt cX10_cellAt 3 (some .long) 2 := ⟨(tw 931 (by decide +kernel) (by decide +kernel)), (tw 69 (by decide +kernel) (by decide +kernel)), ⟨by decide, by decide⟩, by decide +kernel, ⟨fun _ => (tw 930 (by decide +kernel) (by decide +kernel)), fun h => by cases h⟩⟩
theorem seX10_cellAt : Cond.selects RX10 yX10_cellAt yX10_cellAt ∈ lw_good := (tw 46 (by decide +kernel) (by decide +kernel))
theorem lkX10_172 : Cond.methodLink RX10 172 yX10_three ∈ lw_good := (tw 936 (by decide +kernel) (by decide +kernel))
theorem mvX10_three : MV true yX10_three cX10_three 7 (some .long) 6 := ⟨(tw 939 (by decide +kernel) (by decide +kernel)), (tw 69 (by decide +kernel) (by decide +kernel)), ⟨by decide, by decide⟩, by decide +kernel, ⟨fun _ => (tw 938 (by decide +kernel) (by decide +kernel)), fun h => by cases h⟩⟩
theorem seX10_three : Cond.selects RX10 yX10_three yX10_three ∈ lw_good := (tw 48 (by decide +kernel) (by decide +kernel))
theorem lkX10_168 : Cond.methodLink RX10 168 yX10_two ∈ lw_good := (tw 932 (by decide +kernel) (by decide +kernel))
theorem mvX10_two : MV true yX10_two cX10_two 5 (some .long) 4 := ⟨(tw 935 (by decide +kernel) (by decide +kernel)), (tw 69 (by decide +kernel) (by decide +kernel)), ⟨by decide, by decide⟩, by decide +kernel, ⟨fun _ => (tw 934 (by decide +kernel) (by decide +kernel)), fun h => by cases h⟩⟩
theorem seX10_two : Cond.selects RX10 yX10_two yX10_two ∈ lw_good := (tw 47 (by decide +kernel) (by decide +kernel))
theorem lkX10_164 : Cond.methodLink RX10 164 yX10_layRows ∈ lw_good := (tw 920 (by decide +kernel) (by decide +kernel))
theorem mvX10_layRows : MV true yX10_layRows cX10_layRows 5 none 1 := ⟨(tw 923 (by decide +kernel) (by decide +kernel)), (tw 69 (by decide +kernel) (by decide +kernel)), ⟨by decide, by decide⟩, by decide +kernel, ⟨fun _ => (tw 922 (by decide +kernel) (by decide +kernel)), fun h => by cases h⟩⟩
theorem seX10_layRows : Cond.selects RX10 yX10_layRows yX10_layRows ∈ lw_good := (tw 44 (by decide +kernel) (by decide +kernel))
theorem ffX10_178 : FF RX10 178 10 27 1 false := ⟨by decide, rfl, (RX10, TX10, 31), rfl, rfl, inG10, by decide, (tw 720 (by decide +kernel) (by decide +kernel)), rfl, rfl, nmX10, tyX10, tyX10_ok, fun h => absurd h (by decide), fun _ => rfl, fun h => absurd h (by decide)⟩
theorem ffX10_182 : FF RX10 182 10 24 1 false := ⟨by decide, rfl, (RX10, TX10, 31), rfl, rfl, inG10, by decide, (tw 717 (by decide +kernel) (by decide +kernel)), rfl, rfl, nmX10, tyX10, tyX10_ok, fun h => absurd h (by decide), fun _ => rfl, fun h => absurd h (by decide)⟩
theorem ffX10_185 : FF RX10 185 10 25 1 false := ⟨by decide, rfl, (RX10, TX10, 31), rfl, rfl, inG10, by decide, (tw 718 (by decide +kernel) (by decide +kernel)), rfl, rfl, nmX10, tyX10, tyX10_ok, fun h => absurd h (by decide), fun _ => rfl, fun h => absurd h (by decide)⟩
theorem ffX10_188 : FF RX10 188 10 26 1 false := ⟨by decide, rfl, (RX10, TX10, 31), rfl, rfl, inG10, by decide, (tw 719 (by decide +kernel) (by decide +kernel)), rfl, rfl, nmX10, tyX10, tyX10_ok, fun h => absurd h (by decide), fun _ => rfl, fun h => absurd h (by decide)⟩
theorem cwX10_176 : Cond.constantLong RX10 176 (-1) ∈ lw_good := (tw 948 (by decide +kernel) (by decide +kernel))
theorem lkX10_191 : Cond.methodLink RX10 191 yX10_rankOf ∈ lw_good := (tw 916 (by decide +kernel) (by decide +kernel))
theorem mvX10_rankOf : MV true yX10_rankOf cX10_rankOf 9 (some .int) 1 := ⟨(tw 919 (by decide +kernel) (by decide +kernel)), (tw 69 (by decide +kernel) (by decide +kernel)), ⟨by decide, by decide⟩, by decide +kernel, ⟨fun _ => (tw 918 (by decide +kernel) (by decide +kernel)), fun h => by cases h⟩⟩
theorem seX10_rankOf : Cond.selects RX10 yX10_rankOf yX10_rankOf ∈ lw_good := (tw 43 (by decide +kernel) (by decide +kernel))
theorem lkX10_197 : Cond.methodLink RX10 197 yX10_solves ∈ lw_good := (tw 944 (by decide +kernel) (by decide +kernel))
theorem mvX10_solves : MV true yX10_solves cX10_solves 8 none 0 := ⟨(tw 947 (by decide +kernel) (by decide +kernel)), (tw 69 (by decide +kernel) (by decide +kernel)), ⟨by decide, by decide⟩, by decide +kernel, ⟨fun _ => (tw 946 (by decide +kernel) (by decide +kernel)), fun h => by cases h⟩⟩
theorem seX10_solves : Cond.selects RX10 yX10_solves yX10_solves ∈ lw_good := (tw 50 (by decide +kernel) (by decide +kernel))
theorem lkX10_200 : Cond.methodLink RX10 200 yX10_isFilled ∈ lw_good := (tw 949 (by decide +kernel) (by decide +kernel))
theorem mvX10_isFilled : MV true yX10_isFilled cX10_isFilled 3 (some .boolean) 0 := ⟨(tw 952 (by decide +kernel) (by decide +kernel)), (tw 69 (by decide +kernel) (by decide +kernel)), ⟨by decide, by decide⟩, by decide +kernel, ⟨fun _ => (tw 951 (by decide +kernel) (by decide +kernel)), fun h => by cases h⟩⟩
theorem seX10_isFilled : Cond.selects RX10 yX10_isFilled yX10_isFilled ∈ lw_good := (tw 51 (by decide +kernel) (by decide +kernel))
theorem lkX10_203 : Cond.methodLink RX10 203 yX10_differs ∈ lw_good := (tw 953 (by decide +kernel) (by decide +kernel))
theorem mvX10_differs : MV true yX10_differs cX10_differs 8 (some .long) 1 := ⟨(tw 956 (by decide +kernel) (by decide +kernel)), (tw 69 (by decide +kernel) (by decide +kernel)), ⟨by decide, by decide⟩, by decide +kernel, ⟨fun _ => (tw 955 (by decide +kernel) (by decide +kernel)), fun h => by cases h⟩⟩
theorem seX10_differs : Cond.selects RX10 yX10_differs yX10_differs ∈ lw_good := (tw 52 (by decide +kernel) (by decide +kernel))
theorem lkX10_194 : Cond.methodLink RX10 194 yX10_isOpen ∈ lw_good := (tw 940 (by decide +kernel) (by decide +kernel))
theorem mvX10_isOpen : MV true yX10_isOpen cX10_isOpen 7 (some .boolean) 1 := ⟨(tw 943 (by decide +kernel) (by decide +kernel)), (tw 69 (by decide +kernel) (by decide +kernel)), ⟨by decide, by decide⟩, by decide +kernel, ⟨fun _ => (tw 942 (by decide +kernel) (by decide +kernel)), fun h => by cases h⟩⟩
theorem seX10_isOpen : Cond.selects RX10 yX10_isOpen yX10_isOpen ∈ lw_good := (tw 49 (by decide +kernel) (by decide +kernel))
theorem lkX10_207 : Cond.methodLink RX10 207 yX10_verdictOf ∈ lw_good := (tw 912 (by decide +kernel) (by decide +kernel))
theorem mvX10_verdictOf : MV true yX10_verdictOf cX10_verdictOf 4 (some .int) 1 := ⟨(tw 915 (by decide +kernel) (by decide +kernel)), (tw 69 (by decide +kernel) (by decide +kernel)), ⟨by decide, by decide⟩, by decide +kernel, ⟨fun _ => (tw 914 (by decide +kernel) (by decide +kernel)), fun h => by cases h⟩⟩
theorem seX10_verdictOf : Cond.selects RX10 yX10_verdictOf yX10_verdictOf ∈ lw_good := (tw 42 (by decide +kernel) (by decide +kernel))
theorem lkX10_210 : Cond.methodLink RX10 210 yX10_bits ∈ lw_good := (tw 965 (by decide +kernel) (by decide +kernel))
theorem mvX10_bits : MV false yX10_bits cX10_bits 3 (some .int) 1 := ⟨(tw 967 (by decide +kernel) (by decide +kernel)), (tw 69 (by decide +kernel) (by decide +kernel)), ⟨by decide, by decide⟩, by decide +kernel, ⟨fun h => (by cases h), fun _ => (tw 966 (by decide +kernel) (by decide +kernel))⟩⟩
theorem cwX10_213 : Cond.constantLong RX10 213 (999999999) ∈ lw_good := (tw 976 (by decide +kernel) (by decide +kernel))
theorem cwX10_215 : Cond.constant RX10 215 (999999999) ∈ lw_good := (tw 977 (by decide +kernel) (by decide +kernel))
theorem ffX10_219 : FF RX10 219 10 28 0 false := ⟨by decide, rfl, (RX10, TX10, 31), rfl, rfl, inG10, by decide, (tw 721 (by decide +kernel) (by decide +kernel)), rfl, rfl, nmX10, tyX10, tyX10_ok, fun _ => rfl, fun h => absurd h (by decide), fun h => absurd h (by decide)⟩
theorem lkX10_216 : Cond.methodLink RX10 216 yX10_worstOf ∈ lw_good := (tw 972 (by decide +kernel) (by decide +kernel))
theorem mvX10_worstOf : MV true yX10_worstOf cX10_worstOf 7 (some .int) 1 := ⟨(tw 975 (by decide +kernel) (by decide +kernel)), (tw 69 (by decide +kernel) (by decide +kernel)), ⟨by decide, by decide⟩, by decide +kernel, ⟨fun _ => (tw 974 (by decide +kernel) (by decide +kernel)), fun h => by cases h⟩⟩
theorem seX10_worstOf : Cond.selects RX10 yX10_worstOf yX10_worstOf ∈ lw_good := (tw 55 (by decide +kernel) (by decide +kernel))
theorem ffX10_222 : FF RX10 222 10 29 0 false := ⟨by decide, rfl, (RX10, TX10, 31), rfl, rfl, inG10, by decide, (tw 722 (by decide +kernel) (by decide +kernel)), rfl, rfl, nmX10, tyX10, tyX10_ok, fun _ => rfl, fun h => absurd h (by decide), fun h => absurd h (by decide)⟩
theorem ffX10_225 : FF RX10 225 10 30 0 false := ⟨by decide, rfl, (RX10, TX10, 31), rfl, rfl, inG10, by decide, (tw 723 (by decide +kernel) (by decide +kernel)), rfl, rfl, nmX10, tyX10, tyX10_ok, fun _ => rfl, fun h => absurd h (by decide), fun h => absurd h (by decide)⟩
theorem lkX10_228 : Cond.methodLink RX10 228 yX10_root ∈ lw_good := (tw 982 (by decide +kernel) (by decide +kernel))
theorem mvX10_root : MV false yX10_root cX10_root 2 (some .int) 1 := ⟨(tw 984 (by decide +kernel) (by decide +kernel)), (tw 69 (by decide +kernel) (by decide +kernel)), ⟨by decide, by decide⟩, by decide +kernel, ⟨fun h => (by cases h), fun _ => (tw 983 (by decide +kernel) (by decide +kernel))⟩⟩
theorem lkX10_231 : Cond.methodLink RX10 231 yX10_outOf ∈ lw_good := (tw 961 (by decide +kernel) (by decide +kernel))
theorem mvX10_outOf : MV true yX10_outOf cX10_outOf 4 (some .int) 1 := ⟨(tw 964 (by decide +kernel) (by decide +kernel)), (tw 69 (by decide +kernel) (by decide +kernel)), ⟨by decide, by decide⟩, by decide +kernel, ⟨fun _ => (tw 963 (by decide +kernel) (by decide +kernel)), fun h => by cases h⟩⟩
theorem seX10_outOf : Cond.selects RX10 yX10_outOf yX10_outOf ∈ lw_good := (tw 53 (by decide +kernel) (by decide +kernel))
theorem lkX10_234 : Cond.methodLink RX10 234 yX10_fourOf ∈ lw_good := (tw 968 (by decide +kernel) (by decide +kernel))
theorem mvX10_fourOf : MV true yX10_fourOf cX10_fourOf 5 (some .int) 1 := ⟨(tw 971 (by decide +kernel) (by decide +kernel)), (tw 69 (by decide +kernel) (by decide +kernel)), ⟨by decide, by decide⟩, by decide +kernel, ⟨fun _ => (tw 970 (by decide +kernel) (by decide +kernel)), fun h => by cases h⟩⟩
theorem seX10_fourOf : Cond.selects RX10 yX10_fourOf yX10_fourOf ∈ lw_good := (tw 54 (by decide +kernel) (by decide +kernel))
theorem lkX10_237 : Cond.methodLink RX10 237 yX10_layCan ∈ lw_good := (tw 978 (by decide +kernel) (by decide +kernel))
theorem mvX10_layCan : MV true yX10_layCan cX10_layCan 10 none 1 := ⟨(tw 981 (by decide +kernel) (by decide +kernel)), (tw 69 (by decide +kernel) (by decide +kernel)), ⟨by decide, by decide⟩, by decide +kernel, ⟨fun _ => (tw 980 (by decide +kernel) (by decide +kernel)), fun h => by cases h⟩⟩
theorem seX10_layCan : Cond.selects RX10 yX10_layCan yX10_layCan ∈ lw_good := (tw 56 (by decide +kernel) (by decide +kernel))
theorem lkX10_240 : Cond.methodLink RX10 240 yX10_lowest ∈ lw_good := (tw 989 (by decide +kernel) (by decide +kernel))
theorem mvX10_lowest : MV false yX10_lowest cX10_lowest 11 (some .int) 3 := ⟨(tw 991 (by decide +kernel) (by decide +kernel)), (tw 69 (by decide +kernel) (by decide +kernel)), ⟨by decide, by decide⟩, by decide +kernel, ⟨fun h => (by cases h), fun _ => (tw 990 (by decide +kernel) (by decide +kernel))⟩⟩
theorem cwX10_244 : Cond.constantLong RX10 244 (10) ∈ lw_good := (tw 1000 (by decide +kernel) (by decide +kernel))
theorem lkX10_246 : Cond.methodLink RX10 246 yX10_sureMany ∈ lw_good := (tw 1013 (by decide +kernel) (by decide +kernel))
theorem mvX10_sureMany : MV true yX10_sureMany cX10_sureMany 3 (some .int) 0 := ⟨(tw 1016 (by decide +kernel) (by decide +kernel)), (tw 69 (by decide +kernel) (by decide +kernel)), ⟨by decide, by decide⟩, by decide +kernel, ⟨fun _ => (tw 1015 (by decide +kernel) (by decide +kernel)), fun h => by cases h⟩⟩
theorem seX10_sureMany : Cond.selects RX10 yX10_sureMany yX10_sureMany ∈ lw_good := (tw 57 (by decide +kernel) (by decide +kernel))
theorem lkL_13 : Cond.methodLink RL 13 yX9_type ∈ lw_good := (tw 366 (by decide +kernel) (by decide +kernel))
theorem mvX9_type : MV true yX9_type cX9_type 2 (some .int) 1 := ⟨(tw 369 (by decide +kernel) (by decide +kernel)), (tw 59 (by decide +kernel) (by decide +kernel)), ⟨by decide, by decide⟩, by decide +kernel, ⟨fun _ => (tw 367 (by decide +kernel) (by decide +kernel)), fun h => by cases h⟩⟩
theorem seX9_type : Cond.selects RX9 yX9_type yX9_type ∈ lw_good := (tw 368 (by decide +kernel) (by decide +kernel))
theorem lkL_17 : Cond.methodLink RL 17 yX10_type ∈ lw_good := (tw 787 (by decide +kernel) (by decide +kernel))
theorem mvX10_type : MV true yX10_type cX10_type 2 (some .int) 1 := ⟨(tw 790 (by decide +kernel) (by decide +kernel)), (tw 69 (by decide +kernel) (by decide +kernel)), ⟨by decide, by decide⟩, by decide +kernel, ⟨fun _ => (tw 788 (by decide +kernel) (by decide +kernel)), fun h => by cases h⟩⟩
theorem seX10_type : Cond.selects RX10 yX10_type yX10_type ∈ lw_good := (tw 789 (by decide +kernel) (by decide +kernel))
theorem lkL_18 : Cond.methodLink RL 18 yX9_clear ∈ lw_good := (tw 377 (by decide +kernel) (by decide +kernel))
theorem mvX9_clear : MV true yX9_clear cX9_clear 2 (some .int) 0 := ⟨(tw 380 (by decide +kernel) (by decide +kernel)), (tw 59 (by decide +kernel) (by decide +kernel)), ⟨by decide, by decide⟩, by decide +kernel, ⟨fun _ => (tw 378 (by decide +kernel) (by decide +kernel)), fun h => by cases h⟩⟩
theorem seX9_clear : Cond.selects RX9 yX9_clear yX9_clear ∈ lw_good := (tw 379 (by decide +kernel) (by decide +kernel))
theorem lkL_22 : Cond.methodLink RL 22 yX10_clear ∈ lw_good := (tw 794 (by decide +kernel) (by decide +kernel))
theorem mvX10_clear : MV true yX10_clear cX10_clear 2 (some .int) 0 := ⟨(tw 797 (by decide +kernel) (by decide +kernel)), (tw 69 (by decide +kernel) (by decide +kernel)), ⟨by decide, by decide⟩, by decide +kernel, ⟨fun _ => (tw 795 (by decide +kernel) (by decide +kernel)), fun h => by cases h⟩⟩
theorem seX10_clear : Cond.selects RX10 yX10_clear yX10_clear ∈ lw_good := (tw 796 (by decide +kernel) (by decide +kernel))
theorem lkL_23 : Cond.methodLink RL 23 yX9_field ∈ lw_good := (tw 381 (by decide +kernel) (by decide +kernel))
theorem mvX9_field : MV true yX9_field cX9_field 3 (some .int) 0 := ⟨(tw 384 (by decide +kernel) (by decide +kernel)), (tw 59 (by decide +kernel) (by decide +kernel)), ⟨by decide, by decide⟩, by decide +kernel, ⟨fun _ => (tw 382 (by decide +kernel) (by decide +kernel)), fun h => by cases h⟩⟩
theorem seX9_field : Cond.selects RX9 yX9_field yX9_field ∈ lw_good := (tw 383 (by decide +kernel) (by decide +kernel))
theorem lkL_26 : Cond.methodLink RL 26 yX10_field ∈ lw_good := (tw 798 (by decide +kernel) (by decide +kernel))
theorem mvX10_field : MV true yX10_field cX10_field 3 (some .int) 0 := ⟨(tw 801 (by decide +kernel) (by decide +kernel)), (tw 69 (by decide +kernel) (by decide +kernel)), ⟨by decide, by decide⟩, by decide +kernel, ⟨fun _ => (tw 799 (by decide +kernel) (by decide +kernel)), fun h => by cases h⟩⟩
theorem seX10_field : Cond.selects RX10 yX10_field yX10_field ∈ lw_good := (tw 800 (by decide +kernel) (by decide +kernel))
theorem lkL_27 : Cond.methodLink RL 27 yX9_station ∈ lw_good := (tw 442 (by decide +kernel) (by decide +kernel))
theorem mvX9_station : MV true yX9_station cX9_station 3 (some .int) 2 := ⟨(tw 445 (by decide +kernel) (by decide +kernel)), (tw 59 (by decide +kernel) (by decide +kernel)), ⟨by decide, by decide⟩, by decide +kernel, ⟨fun _ => (tw 443 (by decide +kernel) (by decide +kernel)), fun h => by cases h⟩⟩
theorem seX9_station : Cond.selects RX9 yX9_station yX9_station ∈ lw_good := (tw 444 (by decide +kernel) (by decide +kernel))
theorem lkL_31 : Cond.methodLink RL 31 yX10_station ∈ lw_good := (tw 837 (by decide +kernel) (by decide +kernel))
theorem mvX10_station : MV true yX10_station cX10_station 3 (some .int) 2 := ⟨(tw 840 (by decide +kernel) (by decide +kernel)), (tw 69 (by decide +kernel) (by decide +kernel)), ⟨by decide, by decide⟩, by decide +kernel, ⟨fun _ => (tw 838 (by decide +kernel) (by decide +kernel)), fun h => by cases h⟩⟩
theorem seX10_station : Cond.selects RX10 yX10_station yX10_station ∈ lw_good := (tw 839 (by decide +kernel) (by decide +kernel))
theorem lkL_32 : Cond.methodLink RL 32 yX9_reading ∈ lw_good := (tw 450 (by decide +kernel) (by decide +kernel))
theorem mvX9_reading : MV true yX9_reading cX9_reading 3 (some .int) 2 := ⟨(tw 453 (by decide +kernel) (by decide +kernel)), (tw 59 (by decide +kernel) (by decide +kernel)), ⟨by decide, by decide⟩, by decide +kernel, ⟨fun _ => (tw 451 (by decide +kernel) (by decide +kernel)), fun h => by cases h⟩⟩
theorem seX9_reading : Cond.selects RX9 yX9_reading yX9_reading ∈ lw_good := (tw 452 (by decide +kernel) (by decide +kernel))
theorem lkL_35 : Cond.methodLink RL 35 yX10_reading ∈ lw_good := (tw 845 (by decide +kernel) (by decide +kernel))
theorem mvX10_reading : MV true yX10_reading cX10_reading 3 (some .int) 2 := ⟨(tw 848 (by decide +kernel) (by decide +kernel)), (tw 69 (by decide +kernel) (by decide +kernel)), ⟨by decide, by decide⟩, by decide +kernel, ⟨fun _ => (tw 846 (by decide +kernel) (by decide +kernel)), fun h => by cases h⟩⟩
theorem seX10_reading : Cond.selects RX10 yX10_reading yX10_reading ∈ lw_good := (tw 847 (by decide +kernel) (by decide +kernel))
theorem lkL_36 : Cond.methodLink RL 36 yX9_hears ∈ lw_good := (tw 496 (by decide +kernel) (by decide +kernel))
theorem mvX9_hears : MV true yX9_hears cX9_hears 3 (some .int) 2 := ⟨(tw 499 (by decide +kernel) (by decide +kernel)), (tw 59 (by decide +kernel) (by decide +kernel)), ⟨by decide, by decide⟩, by decide +kernel, ⟨fun _ => (tw 497 (by decide +kernel) (by decide +kernel)), fun h => by cases h⟩⟩
theorem seX9_hears : Cond.selects RX9 yX9_hears yX9_hears ∈ lw_good := (tw 498 (by decide +kernel) (by decide +kernel))
theorem lkL_39 : Cond.methodLink RL 39 yX10_hears ∈ lw_good := (tw 888 (by decide +kernel) (by decide +kernel))
theorem mvX10_hears : MV true yX10_hears cX10_hears 4 (some .int) 2 := ⟨(tw 891 (by decide +kernel) (by decide +kernel)), (tw 69 (by decide +kernel) (by decide +kernel)), ⟨by decide, by decide⟩, by decide +kernel, ⟨fun _ => (tw 889 (by decide +kernel) (by decide +kernel)), fun h => by cases h⟩⟩
theorem seX10_hears : Cond.selects RX10 yX10_hears yX10_hears ∈ lw_good := (tw 890 (by decide +kernel) (by decide +kernel))
theorem lkL_40 : Cond.methodLink RL 40 yX9_strikes ∈ lw_good := (tw 507 (by decide +kernel) (by decide +kernel))
theorem mvX9_strikes : MV true yX9_strikes cX9_strikes 2 (some .int) 1 := ⟨(tw 510 (by decide +kernel) (by decide +kernel)), (tw 59 (by decide +kernel) (by decide +kernel)), ⟨by decide, by decide⟩, by decide +kernel, ⟨fun _ => (tw 508 (by decide +kernel) (by decide +kernel)), fun h => by cases h⟩⟩
theorem seX9_strikes : Cond.selects RX9 yX9_strikes yX9_strikes ∈ lw_good := (tw 509 (by decide +kernel) (by decide +kernel))
theorem lkL_43 : Cond.methodLink RL 43 yX10_strikes ∈ lw_good := (tw 896 (by decide +kernel) (by decide +kernel))
theorem mvX10_strikes : MV true yX10_strikes cX10_strikes 3 (some .int) 1 := ⟨(tw 899 (by decide +kernel) (by decide +kernel)), (tw 69 (by decide +kernel) (by decide +kernel)), ⟨by decide, by decide⟩, by decide +kernel, ⟨fun _ => (tw 897 (by decide +kernel) (by decide +kernel)), fun h => by cases h⟩⟩
theorem seX10_strikes : Cond.selects RX10 yX10_strikes yX10_strikes ∈ lw_good := (tw 898 (by decide +kernel) (by decide +kernel))
theorem lkL_44 : Cond.methodLink RL 44 yX9_sets ∈ lw_good := (tw 515 (by decide +kernel) (by decide +kernel))
theorem mvX9_sets : MV true yX9_sets cX9_sets 4 (some .int) 2 := ⟨(tw 518 (by decide +kernel) (by decide +kernel)), (tw 59 (by decide +kernel) (by decide +kernel)), ⟨by decide, by decide⟩, by decide +kernel, ⟨fun _ => (tw 516 (by decide +kernel) (by decide +kernel)), fun h => by cases h⟩⟩
theorem seX9_sets : Cond.selects RX9 yX9_sets yX9_sets ∈ lw_good := (tw 517 (by decide +kernel) (by decide +kernel))
theorem lkL_47 : Cond.methodLink RL 47 yX10_sets ∈ lw_good := (tw 900 (by decide +kernel) (by decide +kernel))
theorem mvX10_sets : MV true yX10_sets cX10_sets 4 (some .int) 2 := ⟨(tw 903 (by decide +kernel) (by decide +kernel)), (tw 69 (by decide +kernel) (by decide +kernel)), ⟨by decide, by decide⟩, by decide +kernel, ⟨fun _ => (tw 901 (by decide +kernel) (by decide +kernel)), fun h => by cases h⟩⟩
theorem seX10_sets : Cond.selects RX10 yX10_sets yX10_sets ∈ lw_good := (tw 902 (by decide +kernel) (by decide +kernel))
theorem lkL_48 : Cond.methodLink RL 48 yX9_undo ∈ lw_good := (tw 519 (by decide +kernel) (by decide +kernel))
theorem mvX9_undo : MV true yX9_undo cX9_undo 1 (some .int) 0 := ⟨(tw 522 (by decide +kernel) (by decide +kernel)), (tw 59 (by decide +kernel) (by decide +kernel)), ⟨by decide, by decide⟩, by decide +kernel, ⟨fun _ => (tw 520 (by decide +kernel) (by decide +kernel)), fun h => by cases h⟩⟩
theorem seX9_undo : Cond.selects RX9 yX9_undo yX9_undo ∈ lw_good := (tw 521 (by decide +kernel) (by decide +kernel))
theorem lkL_51 : Cond.methodLink RL 51 yX10_undo ∈ lw_good := (tw 904 (by decide +kernel) (by decide +kernel))
theorem mvX10_undo : MV true yX10_undo cX10_undo 2 (some .int) 0 := ⟨(tw 907 (by decide +kernel) (by decide +kernel)), (tw 69 (by decide +kernel) (by decide +kernel)), ⟨by decide, by decide⟩, by decide +kernel, ⟨fun _ => (tw 905 (by decide +kernel) (by decide +kernel)), fun h => by cases h⟩⟩
theorem seX10_undo : Cond.selects RX10 yX10_undo yX10_undo ∈ lw_good := (tw 906 (by decide +kernel) (by decide +kernel))
theorem lkL_52 : Cond.methodLink RL 52 yX9_group ∈ lw_good := (tw 527 (by decide +kernel) (by decide +kernel))
theorem mvX9_group : MV true yX9_group cX9_group 4 (some .int) 2 := ⟨(tw 530 (by decide +kernel) (by decide +kernel)), (tw 59 (by decide +kernel) (by decide +kernel)), ⟨by decide, by decide⟩, by decide +kernel, ⟨fun _ => (tw 528 (by decide +kernel) (by decide +kernel)), fun h => by cases h⟩⟩
theorem seX9_group : Cond.selects RX9 yX9_group yX9_group ∈ lw_good := (tw 529 (by decide +kernel) (by decide +kernel))
theorem lkL_55 : Cond.methodLink RL 55 yX10_group ∈ lw_good := (tw 957 (by decide +kernel) (by decide +kernel))
theorem mvX10_group : MV true yX10_group cX10_group 4 (some .int) 2 := ⟨(tw 960 (by decide +kernel) (by decide +kernel)), (tw 69 (by decide +kernel) (by decide +kernel)), ⟨by decide, by decide⟩, by decide +kernel, ⟨fun _ => (tw 958 (by decide +kernel) (by decide +kernel)), fun h => by cases h⟩⟩
theorem seX10_group : Cond.selects RX10 yX10_group yX10_group ∈ lw_good := (tw 959 (by decide +kernel) (by decide +kernel))
theorem lkL_56 : Cond.methodLink RL 56 yX9_place ∈ lw_good := (tw 632 (by decide +kernel) (by decide +kernel))
theorem mvX9_place : MV true yX9_place cX9_place 3 (some .int) 2 := ⟨(tw 635 (by decide +kernel) (by decide +kernel)), (tw 59 (by decide +kernel) (by decide +kernel)), ⟨by decide, by decide⟩, by decide +kernel, ⟨fun _ => (tw 633 (by decide +kernel) (by decide +kernel)), fun h => by cases h⟩⟩
theorem seX9_place : Cond.selects RX9 yX9_place yX9_place ∈ lw_good := (tw 634 (by decide +kernel) (by decide +kernel))
theorem lkL_59 : Cond.methodLink RL 59 yX10_place ∈ lw_good := (tw 985 (by decide +kernel) (by decide +kernel))
theorem mvX10_place : MV true yX10_place cX10_place 3 (some .int) 2 := ⟨(tw 988 (by decide +kernel) (by decide +kernel)), (tw 69 (by decide +kernel) (by decide +kernel)), ⟨by decide, by decide⟩, by decide +kernel, ⟨fun _ => (tw 986 (by decide +kernel) (by decide +kernel)), fun h => by cases h⟩⟩
theorem seX10_place : Cond.selects RX10 yX10_place yX10_place ∈ lw_good := (tw 987 (by decide +kernel) (by decide +kernel))
theorem lkL_60 : Cond.methodLink RL 60 yX9_verdict ∈ lw_good := (tw 646 (by decide +kernel) (by decide +kernel))
theorem mvX9_verdict : MV true yX9_verdict cX9_verdict 2 (some .int) 1 := ⟨(tw 649 (by decide +kernel) (by decide +kernel)), (tw 59 (by decide +kernel) (by decide +kernel)), ⟨by decide, by decide⟩, by decide +kernel, ⟨fun _ => (tw 647 (by decide +kernel) (by decide +kernel)), fun h => by cases h⟩⟩
theorem seX9_verdict : Cond.selects RX9 yX9_verdict yX9_verdict ∈ lw_good := (tw 648 (by decide +kernel) (by decide +kernel))
theorem lkL_63 : Cond.methodLink RL 63 yX10_verdict ∈ lw_good := (tw 908 (by decide +kernel) (by decide +kernel))
theorem mvX10_verdict : MV true yX10_verdict cX10_verdict 2 (some .int) 1 := ⟨(tw 911 (by decide +kernel) (by decide +kernel)), (tw 69 (by decide +kernel) (by decide +kernel)), ⟨by decide, by decide⟩, by decide +kernel, ⟨fun _ => (tw 909 (by decide +kernel) (by decide +kernel)), fun h => by cases h⟩⟩
theorem seX10_verdict : Cond.selects RX10 yX10_verdict yX10_verdict ∈ lw_good := (tw 910 (by decide +kernel) (by decide +kernel))
theorem lkL_64 : Cond.methodLink RL 64 yX9_due ∈ lw_good := (tw 650 (by decide +kernel) (by decide +kernel))
theorem mvX9_due : MV true yX9_due cX9_due 8 (some .int) 5 := ⟨(tw 653 (by decide +kernel) (by decide +kernel)), (tw 59 (by decide +kernel) (by decide +kernel)), ⟨by decide, by decide⟩, by decide +kernel, ⟨fun _ => (tw 651 (by decide +kernel) (by decide +kernel)), fun h => by cases h⟩⟩
theorem seX9_due : Cond.selects RX9 yX9_due yX9_due ∈ lw_good := (tw 652 (by decide +kernel) (by decide +kernel))
theorem lkL_68 : Cond.methodLink RL 68 yX10_due ∈ lw_good := (tw 992 (by decide +kernel) (by decide +kernel))
theorem mvX10_due : MV true yX10_due cX10_due 10 (some .int) 5 := ⟨(tw 995 (by decide +kernel) (by decide +kernel)), (tw 69 (by decide +kernel) (by decide +kernel)), ⟨by decide, by decide⟩, by decide +kernel, ⟨fun _ => (tw 993 (by decide +kernel) (by decide +kernel)), fun h => by cases h⟩⟩
theorem seX10_due : Cond.selects RX10 yX10_due yX10_due ∈ lw_good := (tw 994 (by decide +kernel) (by decide +kernel))
theorem lkL_69 : Cond.methodLink RL 69 yX9_odds ∈ lw_good := (tw 658 (by decide +kernel) (by decide +kernel))
theorem mvX9_odds : MV true yX9_odds cX9_odds 9 (some .int) 3 := ⟨(tw 661 (by decide +kernel) (by decide +kernel)), (tw 59 (by decide +kernel) (by decide +kernel)), ⟨by decide, by decide⟩, by decide +kernel, ⟨fun _ => (tw 659 (by decide +kernel) (by decide +kernel)), fun h => by cases h⟩⟩
theorem seX9_odds : Cond.selects RX9 yX9_odds yX9_odds ∈ lw_good := (tw 660 (by decide +kernel) (by decide +kernel))
theorem lkL_73 : Cond.methodLink RL 73 yX10_odds ∈ lw_good := (tw 996 (by decide +kernel) (by decide +kernel))
theorem mvX10_odds : MV true yX10_odds cX10_odds 13 (some .int) 3 := ⟨(tw 999 (by decide +kernel) (by decide +kernel)), (tw 69 (by decide +kernel) (by decide +kernel)), ⟨by decide, by decide⟩, by decide +kernel, ⟨fun _ => (tw 997 (by decide +kernel) (by decide +kernel)), fun h => by cases h⟩⟩
theorem seX10_odds : Cond.selects RX10 yX10_odds yX10_odds ∈ lw_good := (tw 998 (by decide +kernel) (by decide +kernel))
theorem lkL_74 : Cond.methodLink RL 74 yX9_keep ∈ lw_good := (tw 671 (by decide +kernel) (by decide +kernel))
theorem mvX9_keep : MV true yX9_keep cX9_keep 2 (some .int) 1 := ⟨(tw 674 (by decide +kernel) (by decide +kernel)), (tw 59 (by decide +kernel) (by decide +kernel)), ⟨by decide, by decide⟩, by decide +kernel, ⟨fun _ => (tw 672 (by decide +kernel) (by decide +kernel)), fun h => by cases h⟩⟩
theorem seX9_keep : Cond.selects RX9 yX9_keep yX9_keep ∈ lw_good := (tw 673 (by decide +kernel) (by decide +kernel))
theorem lkL_77 : Cond.methodLink RL 77 yX10_keep ∈ lw_good := (tw 1001 (by decide +kernel) (by decide +kernel))
theorem mvX10_keep : MV true yX10_keep cX10_keep 3 (some .int) 1 := ⟨(tw 1004 (by decide +kernel) (by decide +kernel)), (tw 69 (by decide +kernel) (by decide +kernel)), ⟨by decide, by decide⟩, by decide +kernel, ⟨fun _ => (tw 1002 (by decide +kernel) (by decide +kernel)), fun h => by cases h⟩⟩
theorem seX10_keep : Cond.selects RX10 yX10_keep yX10_keep ∈ lw_good := (tw 1003 (by decide +kernel) (by decide +kernel))
theorem lkL_78 : Cond.methodLink RL 78 yX9_back ∈ lw_good := (tw 675 (by decide +kernel) (by decide +kernel))
theorem mvX9_back : MV true yX9_back cX9_back 2 (some .int) 1 := ⟨(tw 678 (by decide +kernel) (by decide +kernel)), (tw 59 (by decide +kernel) (by decide +kernel)), ⟨by decide, by decide⟩, by decide +kernel, ⟨fun _ => (tw 676 (by decide +kernel) (by decide +kernel)), fun h => by cases h⟩⟩
theorem seX9_back : Cond.selects RX9 yX9_back yX9_back ∈ lw_good := (tw 677 (by decide +kernel) (by decide +kernel))
theorem lkL_81 : Cond.methodLink RL 81 yX10_back ∈ lw_good := (tw 1005 (by decide +kernel) (by decide +kernel))
theorem mvX10_back : MV true yX10_back cX10_back 3 (some .int) 1 := ⟨(tw 1008 (by decide +kernel) (by decide +kernel)), (tw 69 (by decide +kernel) (by decide +kernel)), ⟨by decide, by decide⟩, by decide +kernel, ⟨fun _ => (tw 1006 (by decide +kernel) (by decide +kernel)), fun h => by cases h⟩⟩
theorem seX10_back : Cond.selects RX10 yX10_back yX10_back ∈ lw_good := (tw 1007 (by decide +kernel) (by decide +kernel))
theorem lkL_82 : Cond.methodLink RL 82 yX9_count ∈ lw_good := (tw 679 (by decide +kernel) (by decide +kernel))
theorem mvX9_count : MV true yX9_count cX9_count 2 (some .int) 1 := ⟨(tw 682 (by decide +kernel) (by decide +kernel)), (tw 59 (by decide +kernel) (by decide +kernel)), ⟨by decide, by decide⟩, by decide +kernel, ⟨fun _ => (tw 680 (by decide +kernel) (by decide +kernel)), fun h => by cases h⟩⟩
theorem seX9_count : Cond.selects RX9 yX9_count yX9_count ∈ lw_good := (tw 681 (by decide +kernel) (by decide +kernel))
theorem lkL_85 : Cond.methodLink RL 85 yX10_count ∈ lw_good := (tw 1009 (by decide +kernel) (by decide +kernel))
theorem mvX10_count : MV true yX10_count cX10_count 2 (some .int) 1 := ⟨(tw 1012 (by decide +kernel) (by decide +kernel)), (tw 69 (by decide +kernel) (by decide +kernel)), ⟨by decide, by decide⟩, by decide +kernel, ⟨fun _ => (tw 1010 (by decide +kernel) (by decide +kernel)), fun h => by cases h⟩⟩
theorem seX10_count : Cond.selects RX10 yX10_count yX10_count ∈ lw_good := (tw 1011 (by decide +kernel) (by decide +kernel))
theorem ncL_7 : NC RL 7 9 := ⟨by decide, (RX9, TX9, 11), rfl, rfl, inG9, (tw 73 (by decide +kernel) (by decide +kernel)), (tw 74 (by decide +kernel) (by decide +kernel)), (tw 59 (by decide +kernel) (by decide +kernel)), tyX9, tyX9_ok, fun j hj => match j, hj with | 0, _ => rfl | 1, _ => rfl | 2, _ => rfl | 3, _ => rfl | 4, _ => rfl | 5, _ => rfl | 6, _ => rfl | 7, _ => rfl | 8, _ => rfl | 9, _ => rfl | 10, _ => rfl | j + 11, h => absurd h (by show ¬ (j + 11 < 11); omega)⟩
theorem lkL_9 : Cond.methodLink RL 9 yX9_init ∈ lw_good := (tw 75 (by decide +kernel) (by decide +kernel))
theorem mvX9_init : MV true yX9_init cX9_init 2 none 0 := ⟨(tw 77 (by decide +kernel) (by decide +kernel)), (tw 59 (by decide +kernel) (by decide +kernel)), ⟨by decide, by decide⟩, by decide +kernel, ⟨fun _ => (tw 76 (by decide +kernel) (by decide +kernel)), fun h => by cases h⟩⟩
theorem ncL_10 : NC RL 10 10 := ⟨by decide, (RX10, TX10, 31), rfl, rfl, inG10, (tw 687 (by decide +kernel) (by decide +kernel)), (tw 688 (by decide +kernel) (by decide +kernel)), (tw 69 (by decide +kernel) (by decide +kernel)), tyX10, tyX10_ok, fun j hj => match j, hj with | 0, _ => rfl | 1, _ => rfl | 2, _ => rfl | 3, _ => rfl | 4, _ => rfl | 5, _ => rfl | 6, _ => rfl | 7, _ => rfl | 8, _ => rfl | 9, _ => rfl | 10, _ => rfl | 11, _ => rfl | 12, _ => rfl | 13, _ => rfl | 14, _ => rfl | 15, _ => rfl | 16, _ => rfl | 17, _ => rfl | 18, _ => rfl | 19, _ => rfl | 20, _ => rfl | 21, _ => rfl | 22, _ => rfl | 23, _ => rfl | 24, _ => rfl | 25, _ => rfl | 26, _ => rfl | 27, _ => rfl | 28, _ => rfl | 29, _ => rfl | 30, _ => rfl | j + 31, h => absurd h (by show ¬ (j + 31 < 31); omega)⟩
theorem lkL_12 : Cond.methodLink RL 12 yX10_init ∈ lw_good := (tw 689 (by decide +kernel) (by decide +kernel))
theorem mvX10_init : MV true yX10_init cX10_init 1 none 0 := ⟨(tw 691 (by decide +kernel) (by decide +kernel)), (tw 69 (by decide +kernel) (by decide +kernel)), ⟨by decide, by decide⟩, by decide +kernel, ⟨fun _ => (tw 690 (by decide +kernel) (by decide +kernel)), fun h => by cases h⟩⟩
