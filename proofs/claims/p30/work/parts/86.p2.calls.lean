/-! a land's state as the law sees it; what each call does to it -/
theorem kc0 {b_a0 : MO} {x2 x3 x4 : Int32} {post : Int32 → MO → Prop} (h : (P_L_tryAppend b_a0.2.2.2.2.1 b_a0.2.2.2.2.2.1 x2 (fun r_2 m_3 m_4 => post r_2 (b_a0.1, b_a0.2.1, b_a0.2.2.1, b_a0.2.2.2.1, m_3, m_4, b_a0.2.2.2.2.2.2.1, b_a0.2.2.2.2.2.2.2.1, b_a0.2.2.2.2.2.2.2.2.1, b_a0.2.2.2.2.2.2.2.2.2.1, b_a0.2.2.2.2.2.2.2.2.2.2)))) : P_L_call b_a0 (0 : Int32) x2 x3 x4 post := by
  unfold P_L_call
  exact ⟨fun _ => h, fun e => absurd e (by decide), fun e => absurd e (by decide), fun e => absurd e (by decide), fun e => absurd e (by decide), fun e => absurd e (by decide), fun e => absurd e (by decide), fun e => absurd e (by decide), fun e => absurd e (by decide), fun e => absurd e (by decide), fun e => absurd e (by decide), fun e => absurd e (by decide), fun e => absurd e (by decide), fun e => absurd e (by decide), fun e => absurd e (by decide), fun e => absurd e (by decide), fun e => absurd e (by decide), fun e => absurd e (by decide), fun e => absurd e (by decide), fun n0 n1 n2 n3 n4 n5 n6 n7 n8 n9 n10 n11 n12 n13 n14 n15 n16 n17 n18 => absurd rfl n0⟩
theorem kc1 {b_a0 : MO} {x2 x3 x4 : Int32} {post : Int32 → MO → Prop} (h : (P_L_tryAbout b_a0.1 b_a0.2.2.2.2.2.2.1 x2 (fun r_6 m_7 => post r_6 (b_a0.1, b_a0.2.1, b_a0.2.2.1, b_a0.2.2.2.1, b_a0.2.2.2.2.1, b_a0.2.2.2.2.2.1, m_7, b_a0.2.2.2.2.2.2.2.1, b_a0.2.2.2.2.2.2.2.2.1, b_a0.2.2.2.2.2.2.2.2.2.1, b_a0.2.2.2.2.2.2.2.2.2.2)))) : P_L_call b_a0 (1 : Int32) x2 x3 x4 post := by
  unfold P_L_call
  exact ⟨fun e => absurd e (by decide), fun _ => h, fun e => absurd e (by decide), fun e => absurd e (by decide), fun e => absurd e (by decide), fun e => absurd e (by decide), fun e => absurd e (by decide), fun e => absurd e (by decide), fun e => absurd e (by decide), fun e => absurd e (by decide), fun e => absurd e (by decide), fun e => absurd e (by decide), fun e => absurd e (by decide), fun e => absurd e (by decide), fun e => absurd e (by decide), fun e => absurd e (by decide), fun e => absurd e (by decide), fun e => absurd e (by decide), fun e => absurd e (by decide), fun n0 n1 n2 n3 n4 n5 n6 n7 n8 n9 n10 n11 n12 n13 n14 n15 n16 n17 n18 => absurd rfl n1⟩
theorem kc2 {b_a0 : MO} {x2 x3 x4 : Int32} {post : Int32 → MO → Prop} (h : (P_L_tryRoad b_a0.1 x2 x3 (fun r_9 => post r_9 b_a0))) : P_L_call b_a0 (2 : Int32) x2 x3 x4 post := by
  unfold P_L_call
  exact ⟨fun e => absurd e (by decide), fun e => absurd e (by decide), fun _ => h, fun e => absurd e (by decide), fun e => absurd e (by decide), fun e => absurd e (by decide), fun e => absurd e (by decide), fun e => absurd e (by decide), fun e => absurd e (by decide), fun e => absurd e (by decide), fun e => absurd e (by decide), fun e => absurd e (by decide), fun e => absurd e (by decide), fun e => absurd e (by decide), fun e => absurd e (by decide), fun e => absurd e (by decide), fun e => absurd e (by decide), fun e => absurd e (by decide), fun e => absurd e (by decide), fun n0 n1 n2 n3 n4 n5 n6 n7 n8 n9 n10 n11 n12 n13 n14 n15 n16 n17 n18 => absurd rfl n2⟩
theorem kc3 {b_a0 : MO} {x2 x3 x4 : Int32} {post : Int32 → MO → Prop} (h : (P_L_tryNeighbor b_a0.1 x2 x3 (fun r_11 => post r_11 b_a0))) : P_L_call b_a0 (3 : Int32) x2 x3 x4 post := by
  unfold P_L_call
  exact ⟨fun e => absurd e (by decide), fun e => absurd e (by decide), fun e => absurd e (by decide), fun _ => h, fun e => absurd e (by decide), fun e => absurd e (by decide), fun e => absurd e (by decide), fun e => absurd e (by decide), fun e => absurd e (by decide), fun e => absurd e (by decide), fun e => absurd e (by decide), fun e => absurd e (by decide), fun e => absurd e (by decide), fun e => absurd e (by decide), fun e => absurd e (by decide), fun e => absurd e (by decide), fun e => absurd e (by decide), fun e => absurd e (by decide), fun e => absurd e (by decide), fun n0 n1 n2 n3 n4 n5 n6 n7 n8 n9 n10 n11 n12 n13 n14 n15 n16 n17 n18 => absurd rfl n3⟩
theorem kc4 {b_a0 : MO} {x2 x3 x4 : Int32} {post : Int32 → MO → Prop} (h : (P_L_tryFound b_a0.1 b_a0.2.1 b_a0.2.2.1 b_a0.2.2.2.1 (fun r_13 m_14 m_15 m_16 m_17 => post r_13 (m_14, m_15, m_16, m_17, b_a0.2.2.2.2.1, b_a0.2.2.2.2.2.1, b_a0.2.2.2.2.2.2.1, b_a0.2.2.2.2.2.2.2.1, b_a0.2.2.2.2.2.2.2.2.1, b_a0.2.2.2.2.2.2.2.2.2.1, b_a0.2.2.2.2.2.2.2.2.2.2)))) : P_L_call b_a0 (4 : Int32) x2 x3 x4 post := by
  unfold P_L_call
  exact ⟨fun e => absurd e (by decide), fun e => absurd e (by decide), fun e => absurd e (by decide), fun e => absurd e (by decide), fun _ => h, fun e => absurd e (by decide), fun e => absurd e (by decide), fun e => absurd e (by decide), fun e => absurd e (by decide), fun e => absurd e (by decide), fun e => absurd e (by decide), fun e => absurd e (by decide), fun e => absurd e (by decide), fun e => absurd e (by decide), fun e => absurd e (by decide), fun e => absurd e (by decide), fun e => absurd e (by decide), fun e => absurd e (by decide), fun e => absurd e (by decide), fun n0 n1 n2 n3 n4 n5 n6 n7 n8 n9 n10 n11 n12 n13 n14 n15 n16 n17 n18 => absurd rfl n4⟩
theorem kc5 {b_a0 : MO} {x2 x3 x4 : Int32} {post : Int32 → MO → Prop} (h : (P_L_tryLay b_a0.1 b_a0.2.1 b_a0.2.2.1 b_a0.2.2.2.1 x2 x3 x4 (fun r_19 m_20 m_21 m_22 m_23 => post r_19 (m_20, m_21, m_22, m_23, b_a0.2.2.2.2.1, b_a0.2.2.2.2.2.1, b_a0.2.2.2.2.2.2.1, b_a0.2.2.2.2.2.2.2.1, b_a0.2.2.2.2.2.2.2.2.1, b_a0.2.2.2.2.2.2.2.2.2.1, b_a0.2.2.2.2.2.2.2.2.2.2)))) : P_L_call b_a0 (5 : Int32) x2 x3 x4 post := by
  unfold P_L_call
  exact ⟨fun e => absurd e (by decide), fun e => absurd e (by decide), fun e => absurd e (by decide), fun e => absurd e (by decide), fun e => absurd e (by decide), fun _ => h, fun e => absurd e (by decide), fun e => absurd e (by decide), fun e => absurd e (by decide), fun e => absurd e (by decide), fun e => absurd e (by decide), fun e => absurd e (by decide), fun e => absurd e (by decide), fun e => absurd e (by decide), fun e => absurd e (by decide), fun e => absurd e (by decide), fun e => absurd e (by decide), fun e => absurd e (by decide), fun e => absurd e (by decide), fun n0 n1 n2 n3 n4 n5 n6 n7 n8 n9 n10 n11 n12 n13 n14 n15 n16 n17 n18 => absurd rfl n5⟩
theorem kc6 {b_a0 : MO} {x2 x3 x4 : Int32} {post : Int32 → MO → Prop} (h : (P_L_tryTear b_a0.1 b_a0.2.1 b_a0.2.2.1 b_a0.2.2.2.1 x2 x3 (fun r_25 m_26 m_27 m_28 m_29 => post r_25 (m_26, m_27, m_28, m_29, b_a0.2.2.2.2.1, b_a0.2.2.2.2.2.1, b_a0.2.2.2.2.2.2.1, b_a0.2.2.2.2.2.2.2.1, b_a0.2.2.2.2.2.2.2.2.1, b_a0.2.2.2.2.2.2.2.2.2.1, b_a0.2.2.2.2.2.2.2.2.2.2)))) : P_L_call b_a0 (6 : Int32) x2 x3 x4 post := by
  unfold P_L_call
  exact ⟨fun e => absurd e (by decide), fun e => absurd e (by decide), fun e => absurd e (by decide), fun e => absurd e (by decide), fun e => absurd e (by decide), fun e => absurd e (by decide), fun _ => h, fun e => absurd e (by decide), fun e => absurd e (by decide), fun e => absurd e (by decide), fun e => absurd e (by decide), fun e => absurd e (by decide), fun e => absurd e (by decide), fun e => absurd e (by decide), fun e => absurd e (by decide), fun e => absurd e (by decide), fun e => absurd e (by decide), fun e => absurd e (by decide), fun e => absurd e (by decide), fun n0 n1 n2 n3 n4 n5 n6 n7 n8 n9 n10 n11 n12 n13 n14 n15 n16 n17 n18 => absurd rfl n6⟩
theorem kc7 {b_a0 : MO} {x2 x3 x4 : Int32} {post : Int32 → MO → Prop} (h : (P_L_trySeeAll b_a0.1 b_a0.2.1 b_a0.2.2.1 b_a0.2.2.2.1 b_a0.2.2.2.2.1 b_a0.2.2.2.2.2.1 (fun r_31 m_32 m_33 m_34 m_35 => post r_31 (m_32, m_33, m_34, m_35, b_a0.2.2.2.2.1, b_a0.2.2.2.2.2.1, b_a0.2.2.2.2.2.2.1, b_a0.2.2.2.2.2.2.2.1, b_a0.2.2.2.2.2.2.2.2.1, b_a0.2.2.2.2.2.2.2.2.2.1, b_a0.2.2.2.2.2.2.2.2.2.2)))) : P_L_call b_a0 (7 : Int32) x2 x3 x4 post := by
  unfold P_L_call
  exact ⟨fun e => absurd e (by decide), fun e => absurd e (by decide), fun e => absurd e (by decide), fun e => absurd e (by decide), fun e => absurd e (by decide), fun e => absurd e (by decide), fun e => absurd e (by decide), fun _ => h, fun e => absurd e (by decide), fun e => absurd e (by decide), fun e => absurd e (by decide), fun e => absurd e (by decide), fun e => absurd e (by decide), fun e => absurd e (by decide), fun e => absurd e (by decide), fun e => absurd e (by decide), fun e => absurd e (by decide), fun e => absurd e (by decide), fun e => absurd e (by decide), fun n0 n1 n2 n3 n4 n5 n6 n7 n8 n9 n10 n11 n12 n13 n14 n15 n16 n17 n18 => absurd rfl n7⟩
theorem kc8 {b_a0 : MO} {x2 x3 x4 : Int32} {post : Int32 → MO → Prop} (h : (P_L_tryForget b_a0.1 b_a0.2.1 b_a0.2.2.1 b_a0.2.2.2.1 x2 x3 (fun r_37 m_38 m_39 m_40 m_41 => post r_37 (m_38, m_39, m_40, m_41, b_a0.2.2.2.2.1, b_a0.2.2.2.2.2.1, b_a0.2.2.2.2.2.2.1, b_a0.2.2.2.2.2.2.2.1, b_a0.2.2.2.2.2.2.2.2.1, b_a0.2.2.2.2.2.2.2.2.2.1, b_a0.2.2.2.2.2.2.2.2.2.2)))) : P_L_call b_a0 (8 : Int32) x2 x3 x4 post := by
  unfold P_L_call
  exact ⟨fun e => absurd e (by decide), fun e => absurd e (by decide), fun e => absurd e (by decide), fun e => absurd e (by decide), fun e => absurd e (by decide), fun e => absurd e (by decide), fun e => absurd e (by decide), fun e => absurd e (by decide), fun _ => h, fun e => absurd e (by decide), fun e => absurd e (by decide), fun e => absurd e (by decide), fun e => absurd e (by decide), fun e => absurd e (by decide), fun e => absurd e (by decide), fun e => absurd e (by decide), fun e => absurd e (by decide), fun e => absurd e (by decide), fun e => absurd e (by decide), fun n0 n1 n2 n3 n4 n5 n6 n7 n8 n9 n10 n11 n12 n13 n14 n15 n16 n17 n18 => absurd rfl n8⟩
theorem kc9 {b_a0 : MO} {x2 x3 x4 : Int32} {post : Int32 → MO → Prop} (h : (P_L_tryUndo b_a0.1 b_a0.2.1 b_a0.2.2.1 b_a0.2.2.2.1 (fun r_43 m_44 m_45 => post r_43 (m_44, b_a0.2.1, m_45, b_a0.2.2.2.1, b_a0.2.2.2.2.1, b_a0.2.2.2.2.2.1, b_a0.2.2.2.2.2.2.1, b_a0.2.2.2.2.2.2.2.1, b_a0.2.2.2.2.2.2.2.2.1, b_a0.2.2.2.2.2.2.2.2.2.1, b_a0.2.2.2.2.2.2.2.2.2.2)))) : P_L_call b_a0 (9 : Int32) x2 x3 x4 post := by
  unfold P_L_call
  exact ⟨fun e => absurd e (by decide), fun e => absurd e (by decide), fun e => absurd e (by decide), fun e => absurd e (by decide), fun e => absurd e (by decide), fun e => absurd e (by decide), fun e => absurd e (by decide), fun e => absurd e (by decide), fun e => absurd e (by decide), fun _ => h, fun e => absurd e (by decide), fun e => absurd e (by decide), fun e => absurd e (by decide), fun e => absurd e (by decide), fun e => absurd e (by decide), fun e => absurd e (by decide), fun e => absurd e (by decide), fun e => absurd e (by decide), fun e => absurd e (by decide), fun n0 n1 n2 n3 n4 n5 n6 n7 n8 n9 n10 n11 n12 n13 n14 n15 n16 n17 n18 => absurd rfl n9⟩
theorem kc10 {b_a0 : MO} {x2 x3 x4 : Int32} {post : Int32 → MO → Prop} (h : (P_L_tryInventions b_a0.1 b_a0.2.2.2.2.2.2.1 x2 (fun r_47 m_48 => post r_47 (b_a0.1, b_a0.2.1, b_a0.2.2.1, b_a0.2.2.2.1, b_a0.2.2.2.2.1, b_a0.2.2.2.2.2.1, m_48, b_a0.2.2.2.2.2.2.2.1, b_a0.2.2.2.2.2.2.2.2.1, b_a0.2.2.2.2.2.2.2.2.2.1, b_a0.2.2.2.2.2.2.2.2.2.2)))) : P_L_call b_a0 (10 : Int32) x2 x3 x4 post := by
  unfold P_L_call
  exact ⟨fun e => absurd e (by decide), fun e => absurd e (by decide), fun e => absurd e (by decide), fun e => absurd e (by decide), fun e => absurd e (by decide), fun e => absurd e (by decide), fun e => absurd e (by decide), fun e => absurd e (by decide), fun e => absurd e (by decide), fun e => absurd e (by decide), fun _ => h, fun e => absurd e (by decide), fun e => absurd e (by decide), fun e => absurd e (by decide), fun e => absurd e (by decide), fun e => absurd e (by decide), fun e => absurd e (by decide), fun e => absurd e (by decide), fun e => absurd e (by decide), fun n0 n1 n2 n3 n4 n5 n6 n7 n8 n9 n10 n11 n12 n13 n14 n15 n16 n17 n18 => absurd rfl n10⟩
theorem kc11 {b_a0 : MO} {x2 x3 x4 : Int32} {post : Int32 → MO → Prop} (h : (P_L_tryInvented b_a0.1 b_a0.2.2.2.2.2.2.1 x2 x3 (fun r_50 m_51 => post r_50 (b_a0.1, b_a0.2.1, b_a0.2.2.1, b_a0.2.2.2.1, b_a0.2.2.2.2.1, b_a0.2.2.2.2.2.1, m_51, b_a0.2.2.2.2.2.2.2.1, b_a0.2.2.2.2.2.2.2.2.1, b_a0.2.2.2.2.2.2.2.2.2.1, b_a0.2.2.2.2.2.2.2.2.2.2)))) : P_L_call b_a0 (11 : Int32) x2 x3 x4 post := by
  unfold P_L_call
  exact ⟨fun e => absurd e (by decide), fun e => absurd e (by decide), fun e => absurd e (by decide), fun e => absurd e (by decide), fun e => absurd e (by decide), fun e => absurd e (by decide), fun e => absurd e (by decide), fun e => absurd e (by decide), fun e => absurd e (by decide), fun e => absurd e (by decide), fun e => absurd e (by decide), fun _ => h, fun e => absurd e (by decide), fun e => absurd e (by decide), fun e => absurd e (by decide), fun e => absurd e (by decide), fun e => absurd e (by decide), fun e => absurd e (by decide), fun e => absurd e (by decide), fun n0 n1 n2 n3 n4 n5 n6 n7 n8 n9 n10 n11 n12 n13 n14 n15 n16 n17 n18 => absurd rfl n11⟩
theorem kc12 {b_a0 : MO} {x2 x3 x4 : Int32} {post : Int32 → MO → Prop} (h : (P_L_tryChoices b_a0.1 b_a0.2.2.2.2.2.2.1 x2 (fun r_53 m_54 => post r_53 (b_a0.1, b_a0.2.1, b_a0.2.2.1, b_a0.2.2.2.1, b_a0.2.2.2.2.1, b_a0.2.2.2.2.2.1, m_54, b_a0.2.2.2.2.2.2.2.1, b_a0.2.2.2.2.2.2.2.2.1, b_a0.2.2.2.2.2.2.2.2.2.1, b_a0.2.2.2.2.2.2.2.2.2.2)))) : P_L_call b_a0 (12 : Int32) x2 x3 x4 post := by
  unfold P_L_call
  exact ⟨fun e => absurd e (by decide), fun e => absurd e (by decide), fun e => absurd e (by decide), fun e => absurd e (by decide), fun e => absurd e (by decide), fun e => absurd e (by decide), fun e => absurd e (by decide), fun e => absurd e (by decide), fun e => absurd e (by decide), fun e => absurd e (by decide), fun e => absurd e (by decide), fun e => absurd e (by decide), fun _ => h, fun e => absurd e (by decide), fun e => absurd e (by decide), fun e => absurd e (by decide), fun e => absurd e (by decide), fun e => absurd e (by decide), fun e => absurd e (by decide), fun n0 n1 n2 n3 n4 n5 n6 n7 n8 n9 n10 n11 n12 n13 n14 n15 n16 n17 n18 => absurd rfl n12⟩
theorem kc13 {b_a0 : MO} {x2 x3 x4 : Int32} {post : Int32 → MO → Prop} (h : (P_L_trySince b_a0.1 b_a0.2.2.2.2.2.2.1 x2 x3 (fun r_56 m_57 => post r_56 (b_a0.1, b_a0.2.1, b_a0.2.2.1, b_a0.2.2.2.1, b_a0.2.2.2.2.1, b_a0.2.2.2.2.2.1, m_57, b_a0.2.2.2.2.2.2.2.1, b_a0.2.2.2.2.2.2.2.2.1, b_a0.2.2.2.2.2.2.2.2.2.1, b_a0.2.2.2.2.2.2.2.2.2.2)))) : P_L_call b_a0 (13 : Int32) x2 x3 x4 post := by
  unfold P_L_call
  exact ⟨fun e => absurd e (by decide), fun e => absurd e (by decide), fun e => absurd e (by decide), fun e => absurd e (by decide), fun e => absurd e (by decide), fun e => absurd e (by decide), fun e => absurd e (by decide), fun e => absurd e (by decide), fun e => absurd e (by decide), fun e => absurd e (by decide), fun e => absurd e (by decide), fun e => absurd e (by decide), fun e => absurd e (by decide), fun _ => h, fun e => absurd e (by decide), fun e => absurd e (by decide), fun e => absurd e (by decide), fun e => absurd e (by decide), fun e => absurd e (by decide), fun n0 n1 n2 n3 n4 n5 n6 n7 n8 n9 n10 n11 n12 n13 n14 n15 n16 n17 n18 => absurd rfl n13⟩
theorem kc14 {b_a0 : MO} {x2 x3 x4 : Int32} {post : Int32 → MO → Prop} (h : (P_L_tryReached b_a0.1 b_a0.2.2.2.2.2.2.1 x2 x3 (fun r_59 m_60 => post r_59 (b_a0.1, b_a0.2.1, b_a0.2.2.1, b_a0.2.2.2.1, b_a0.2.2.2.2.1, b_a0.2.2.2.2.2.1, m_60, b_a0.2.2.2.2.2.2.2.1, b_a0.2.2.2.2.2.2.2.2.1, b_a0.2.2.2.2.2.2.2.2.2.1, b_a0.2.2.2.2.2.2.2.2.2.2)))) : P_L_call b_a0 (14 : Int32) x2 x3 x4 post := by
  unfold P_L_call
  exact ⟨fun e => absurd e (by decide), fun e => absurd e (by decide), fun e => absurd e (by decide), fun e => absurd e (by decide), fun e => absurd e (by decide), fun e => absurd e (by decide), fun e => absurd e (by decide), fun e => absurd e (by decide), fun e => absurd e (by decide), fun e => absurd e (by decide), fun e => absurd e (by decide), fun e => absurd e (by decide), fun e => absurd e (by decide), fun e => absurd e (by decide), fun _ => h, fun e => absurd e (by decide), fun e => absurd e (by decide), fun e => absurd e (by decide), fun e => absurd e (by decide), fun n0 n1 n2 n3 n4 n5 n6 n7 n8 n9 n10 n11 n12 n13 n14 n15 n16 n17 n18 => absurd rfl n14⟩
theorem kc15 {b_a0 : MO} {x2 x3 x4 : Int32} {post : Int32 → MO → Prop} (h : (P_L_tryPassed b_a0.1 b_a0.2.2.2.2.2.2.1 x2 x3 x4 (fun r_62 m_63 => post r_62 (b_a0.1, b_a0.2.1, b_a0.2.2.1, b_a0.2.2.2.1, b_a0.2.2.2.2.1, b_a0.2.2.2.2.2.1, m_63, b_a0.2.2.2.2.2.2.2.1, b_a0.2.2.2.2.2.2.2.2.1, b_a0.2.2.2.2.2.2.2.2.2.1, b_a0.2.2.2.2.2.2.2.2.2.2)))) : P_L_call b_a0 (15 : Int32) x2 x3 x4 post := by
  unfold P_L_call
  exact ⟨fun e => absurd e (by decide), fun e => absurd e (by decide), fun e => absurd e (by decide), fun e => absurd e (by decide), fun e => absurd e (by decide), fun e => absurd e (by decide), fun e => absurd e (by decide), fun e => absurd e (by decide), fun e => absurd e (by decide), fun e => absurd e (by decide), fun e => absurd e (by decide), fun e => absurd e (by decide), fun e => absurd e (by decide), fun e => absurd e (by decide), fun e => absurd e (by decide), fun _ => h, fun e => absurd e (by decide), fun e => absurd e (by decide), fun e => absurd e (by decide), fun n0 n1 n2 n3 n4 n5 n6 n7 n8 n9 n10 n11 n12 n13 n14 n15 n16 n17 n18 => absurd rfl n15⟩
theorem kc16 {b_a0 : MO} {x2 x3 x4 : Int32} {post : Int32 → MO → Prop} (h : (P_L_tryIfLaid b_a0.1 b_a0.2.2.2.2.2.2.2.1 b_a0.2.2.2.2.2.2.2.2.1 x2 x3 x4 (fun r_65 m_66 m_67 => post r_65 (b_a0.1, b_a0.2.1, b_a0.2.2.1, b_a0.2.2.2.1, b_a0.2.2.2.2.1, b_a0.2.2.2.2.2.1, b_a0.2.2.2.2.2.2.1, m_66, m_67, b_a0.2.2.2.2.2.2.2.2.2.1, b_a0.2.2.2.2.2.2.2.2.2.2)))) : P_L_call b_a0 (16 : Int32) x2 x3 x4 post := by
  unfold P_L_call
  exact ⟨fun e => absurd e (by decide), fun e => absurd e (by decide), fun e => absurd e (by decide), fun e => absurd e (by decide), fun e => absurd e (by decide), fun e => absurd e (by decide), fun e => absurd e (by decide), fun e => absurd e (by decide), fun e => absurd e (by decide), fun e => absurd e (by decide), fun e => absurd e (by decide), fun e => absurd e (by decide), fun e => absurd e (by decide), fun e => absurd e (by decide), fun e => absurd e (by decide), fun e => absurd e (by decide), fun _ => h, fun e => absurd e (by decide), fun e => absurd e (by decide), fun n0 n1 n2 n3 n4 n5 n6 n7 n8 n9 n10 n11 n12 n13 n14 n15 n16 n17 n18 => absurd rfl n16⟩
theorem kc17 {b_a0 : MO} {x2 x3 x4 : Int32} {post : Int32 → MO → Prop} (h : (P_L_tryBestRoad b_a0.1 b_a0.2.2.2.2.2.2.2.1 b_a0.2.2.2.2.2.2.2.2.1 x2 (fun r_69 m_70 m_71 => post r_69 (b_a0.1, b_a0.2.1, b_a0.2.2.1, b_a0.2.2.2.1, b_a0.2.2.2.2.1, b_a0.2.2.2.2.2.1, b_a0.2.2.2.2.2.2.1, m_70, m_71, b_a0.2.2.2.2.2.2.2.2.2.1, b_a0.2.2.2.2.2.2.2.2.2.2)))) : P_L_call b_a0 (17 : Int32) x2 x3 x4 post := by
  unfold P_L_call
  exact ⟨fun e => absurd e (by decide), fun e => absurd e (by decide), fun e => absurd e (by decide), fun e => absurd e (by decide), fun e => absurd e (by decide), fun e => absurd e (by decide), fun e => absurd e (by decide), fun e => absurd e (by decide), fun e => absurd e (by decide), fun e => absurd e (by decide), fun e => absurd e (by decide), fun e => absurd e (by decide), fun e => absurd e (by decide), fun e => absurd e (by decide), fun e => absurd e (by decide), fun e => absurd e (by decide), fun e => absurd e (by decide), fun _ => h, fun e => absurd e (by decide), fun n0 n1 n2 n3 n4 n5 n6 n7 n8 n9 n10 n11 n12 n13 n14 n15 n16 n17 n18 => absurd rfl n17⟩
theorem kc18 {b_a0 : MO} {x2 x3 x4 : Int32} {post : Int32 → MO → Prop} (h : (P_L_tryKeep b_a0.1 b_a0.2.2.2.2.2.2.2.2.2.1 b_a0.2.2.2.2.2.2.2.2.2.2 x2 (fun r_73 m_74 m_75 => post r_73 (b_a0.1, b_a0.2.1, b_a0.2.2.1, b_a0.2.2.2.1, b_a0.2.2.2.2.1, b_a0.2.2.2.2.2.1, b_a0.2.2.2.2.2.2.1, b_a0.2.2.2.2.2.2.2.1, b_a0.2.2.2.2.2.2.2.2.1, m_74, m_75)))) : P_L_call b_a0 (18 : Int32) x2 x3 x4 post := by
  unfold P_L_call
  exact ⟨fun e => absurd e (by decide), fun e => absurd e (by decide), fun e => absurd e (by decide), fun e => absurd e (by decide), fun e => absurd e (by decide), fun e => absurd e (by decide), fun e => absurd e (by decide), fun e => absurd e (by decide), fun e => absurd e (by decide), fun e => absurd e (by decide), fun e => absurd e (by decide), fun e => absurd e (by decide), fun e => absurd e (by decide), fun e => absurd e (by decide), fun e => absurd e (by decide), fun e => absurd e (by decide), fun e => absurd e (by decide), fun e => absurd e (by decide), fun _ => h, fun n0 n1 n2 n3 n4 n5 n6 n7 n8 n9 n10 n11 n12 n13 n14 n15 n16 n17 n18 => absurd rfl n18⟩
theorem kc19 {b_a0 : MO} {x2 x3 x4 : Int32} {post : Int32 → MO → Prop} (h : (P_L_tryBack b_a0.1 b_a0.2.2.1 b_a0.2.2.2.2.2.2.2.2.2.1 b_a0.2.2.2.2.2.2.2.2.2.2 x2 (fun r_76 m_77 m_78 => post r_76 (m_77, b_a0.2.1, m_78, b_a0.2.2.2.1, b_a0.2.2.2.2.1, b_a0.2.2.2.2.2.1, b_a0.2.2.2.2.2.2.1, b_a0.2.2.2.2.2.2.2.1, b_a0.2.2.2.2.2.2.2.2.1, b_a0.2.2.2.2.2.2.2.2.2.1, b_a0.2.2.2.2.2.2.2.2.2.2)))) : P_L_call b_a0 (19 : Int32) x2 x3 x4 post := by
  unfold P_L_call
  exact ⟨fun e => absurd e (by decide), fun e => absurd e (by decide), fun e => absurd e (by decide), fun e => absurd e (by decide), fun e => absurd e (by decide), fun e => absurd e (by decide), fun e => absurd e (by decide), fun e => absurd e (by decide), fun e => absurd e (by decide), fun e => absurd e (by decide), fun e => absurd e (by decide), fun e => absurd e (by decide), fun e => absurd e (by decide), fun e => absurd e (by decide), fun e => absurd e (by decide), fun e => absurd e (by decide), fun e => absurd e (by decide), fun e => absurd e (by decide), fun e => absurd e (by decide), fun _ _ _ _ _ _ _ _ _ _ _ _ _ _ _ _ _ _ _ => h⟩
abbrev ST : Type := (Nat → Nat) × Nat × (Nat → Nat → Nat) × Nat × (Nat → Nat) × (Nat → Option (Nat → Nat))
def WF : ST → Prop
  | (S, n, PS, tn, _, sl) => OK S ∧ n ≤ 14 ∧ (∀ j, j < n → OK (PS j)) ∧ tn ≤ 100 ∧ ∀ j S', sl j = some S' → OK S'
def Ag : MO → ST → Prop
  | (lc, po, pc, ps, tl, ts, _, _, _, sl, sv), (S, n, PS, tn, t, s2) => AgC lc S ∧ (∃ o, po = nI o ∧ PC o ps n PS) ∧ pc = nI n ∧ tl = nI tn ∧ AgX ts tn t ∧ SlA sl sv s2
theorem WF.ok {σ : ST} (w : WF σ) : OK σ.1 := by
  obtain ⟨S, n, PS, tn, t, s2⟩ := σ; exact w.1
theorem Ag.land {b : MO} {σ : ST} (h : Ag b σ) : AgC b.1 σ.1 := by
  obtain ⟨lc, po, pc, ps, tl, ts, bh, rc, brh, sl, sv⟩ := b
  obtain ⟨S, n, PS, tn, t, s2⟩ := σ
  exact h.1
/-- a state remembered, and the next one -/
def psh (σ : ST) (S' : Nat → Nat) : ST := (S', pushN σ.2.1, pushP σ.2.1 σ.2.2.1 σ.1, σ.2.2.2)
def und (σ : ST) : ST := (σ.2.2.1 (σ.2.1 - 1), σ.2.1 - 1, σ.2.2.1, σ.2.2.2)
def apd (σ : ST) (c : Nat) : ST := (σ.1, σ.2.1, σ.2.2.1, σ.2.2.2.1 + 1, setT σ.2.2.2.2.1 σ.2.2.2.1 c, σ.2.2.2.2.2)
def clr (σ : ST) : ST := (σ.1, σ.2.1, σ.2.2.1, 0, σ.2.2.2.2.1, σ.2.2.2.2.2)
def kep (σ : ST) (j : Nat) : ST := (σ.1, σ.2.1, σ.2.2.1, σ.2.2.2.1, σ.2.2.2.2.1, fun i => if i = j then some σ.1 else σ.2.2.2.2.2 i)
def bak (σ : ST) (S' : Nat → Nat) : ST := (S', 0, σ.2.2.1, σ.2.2.2)
def redS (σ : ST) : Nat → Nat := (readF σ.2.2.2.2.1 σ.2.2.2.1 (σ.2.2.2.1 + 1) 0 σ.1 0).2.1
def redO (σ : ST) : Nat := (readF σ.2.2.2.2.1 σ.2.2.2.1 (σ.2.2.2.1 + 1) 0 σ.1 0).2.2
def feS (σ : ST) : Option Nat := feR σ.2.2.2.2.1 σ.2.2.2.1 σ.2.2.2.1 0
theorem WF_psh {σ : ST} (w : WF σ) {S' : Nat → Nat} (h : OK S') : WF (psh σ S') := by
  obtain ⟨S, n, PS, tn, t, s2⟩ := σ
  obtain ⟨ok, hn, hok, htn, hsl⟩ := w
  exact ⟨h, pushN_le hn, push_all hok ok, htn, hsl⟩
theorem WF_und {σ : ST} (w : WF σ) (h : 0 < σ.2.1) : WF (und σ) := by
  obtain ⟨S, n, PS, tn, t, s2⟩ := σ
  obtain ⟨ok, hn, hok, htn, hsl⟩ := w
  have h : 0 < n := h
  exact ⟨hok (n - 1) (by omega), (show n - 1 ≤ 14 by omega), fun j hj => hok j (show j < n by have : j < n - 1 := hj; omega), htn, hsl⟩
theorem WF_apd {σ : ST} (w : WF σ) {c : Nat} (h : σ.2.2.2.1 < 100) : WF (apd σ c) := by
  obtain ⟨S, n, PS, tn, t, s2⟩ := σ
  obtain ⟨ok, hn, hok, htn, hsl⟩ := w
  exact ⟨ok, hn, hok, h, hsl⟩
theorem WF_clr {σ : ST} (w : WF σ) : WF (clr σ) := by
  obtain ⟨S, n, PS, tn, t, s2⟩ := σ
  obtain ⟨ok, hn, hok, htn, hsl⟩ := w
  exact ⟨ok, hn, hok, Nat.zero_le _, hsl⟩
theorem WF_kep {σ : ST} (w : WF σ) {j : Nat} : WF (kep σ j) := by
  obtain ⟨S, n, PS, tn, t, s2⟩ := σ
  obtain ⟨ok, hn, hok, htn, hsl⟩ := w
  refine ⟨ok, hn, hok, htn, fun i S' e => ?_⟩
  have e : (if i = j then some S else s2 i) = some S' := e
  by_cases g : i = j
  · rw [if_pos g] at e; cases e; exact ok
  · rw [if_neg g] at e; exact hsl i S' e
theorem WF_bak {σ : ST} (w : WF σ) {j : Nat} {S' : Nat → Nat} (h : σ.2.2.2.2.2 j = some S') : WF (bak σ S') := by
  obtain ⟨S, n, PS, tn, t, s2⟩ := σ
  obtain ⟨ok, hn, hok, htn, hsl⟩ := w
  exact ⟨hsl j S' h, Nat.zero_le _, fun j hj => absurd hj (Nat.not_lt_zero _), htn, hsl⟩
theorem OK_red {σ : ST} (w : WF σ) : OK (redS σ) := by
  obtain ⟨S, n, PS, tn, t, s2⟩ := σ
  exact OK_readF _ _ _ _ w.1
theorem k_append {b : MO} {σ : ST} (w : WF σ) (hb : Ag b σ) {x y z : Int32} {post : Int32 → MO → Prop}
    (h1 : isSign x = false → ∀ b', Ag b' (σ) → post vA b')
    (h2 : isSign x = true → σ.2.2.2.1 = 100 → ∀ b', Ag b' (σ) → post vS b')
    (h0 : isSign x = true → σ.2.2.2.1 < 100 → ∀ b', Ag b' (apd σ (NN x)) → post (nI (σ.2.2.2.1 + 1)) b') : P_L_call b (0 : Int32) x y z post := by
  obtain ⟨lc, po, pc, ps, tl, ts, bh, rc, brh, sl, sv⟩ := b
  obtain ⟨S, n, PS, tn, t, s2⟩ := σ
  obtain ⟨ok, hn, hok, htn, hsl⟩ := w
  obtain ⟨hC, ⟨o, rfl, hP⟩, rfl, rfl, hX, hS⟩ := hb
  exact kc0 (t_append htn hX (fun e => h1 e _ ⟨hC, ⟨o, rfl, hP⟩, rfl, rfl, hX, hS⟩) (fun e f => h2 e f _ ⟨hC, ⟨o, rfl, hP⟩, rfl, rfl, hX, hS⟩) (fun e f s' hs' => h0 e f _ ⟨hC, ⟨o, rfl, hP⟩, rfl, rfl, hs', hS⟩))
theorem k_about {b : MO} {σ : ST} (w : WF σ) (hb : Ag b σ) {x y z : Int32} {post : Int32 → MO → Prop}
    (h1 : isT 6 x = false → ∀ b', Ag b' (σ) → post vA b')
    (h0 : ∀ k, k < 6 → x = nI k → ∀ b', Ag b' σ → post (nI (aboutN σ.1 k)) b') : P_L_call b (1 : Int32) x y z post := by
  obtain ⟨lc, po, pc, ps, tl, ts, bh, rc, brh, sl, sv⟩ := b
  obtain ⟨S, n, PS, tn, t, s2⟩ := σ
  obtain ⟨ok, hn, hok, htn, hsl⟩ := w
  obtain ⟨hC, ⟨o, rfl, hP⟩, rfl, rfl, hX, hS⟩ := hb
  exact kc1 (t_about hC ok (fun e => h1 e _ ⟨hC, ⟨o, rfl, hP⟩, rfl, rfl, hX, hS⟩) (fun k hk e b' => h0 k hk e _ ⟨hC, ⟨o, rfl, hP⟩, rfl, rfl, hX, hS⟩))
theorem k_road {b : MO} {σ : ST} (w : WF σ) (hb : Ag b σ) {x y z : Int32} {post : Int32 → MO → Prop}
    (h1 : bothT σ.1 x y = false → ∀ b', Ag b' (σ) → post vI b')
    (h0 : bothT σ.1 x y = true → ∀ b', Ag b' (σ) → post (cR (rdX σ.1 x y)) b') : P_L_call b (2 : Int32) x y z post := by
  obtain ⟨lc, po, pc, ps, tl, ts, bh, rc, brh, sl, sv⟩ := b
  obtain ⟨S, n, PS, tn, t, s2⟩ := σ
  obtain ⟨ok, hn, hok, htn, hsl⟩ := w
  obtain ⟨hC, ⟨o, rfl, hP⟩, rfl, rfl, hX, hS⟩ := hb
  exact kc2 (t_road hC ok (fun e => h1 e _ ⟨hC, ⟨o, rfl, hP⟩, rfl, rfl, hX, hS⟩) (fun e => h0 e _ ⟨hC, ⟨o, rfl, hP⟩, rfl, rfl, hX, hS⟩))
theorem k_neighbor {b : MO} {σ : ST} (w : WF σ) (hb : Ag b σ) {x y z : Int32} {post : Int32 → MO → Prop}
    (h1 : isT (σ.1 0) x = false → ∀ b', Ag b' (σ) → post vI b')
    (h2 : isT (σ.1 0) x = true → y < 0 → ∀ b', Ag b' (σ) → post vA b')
    (h0 : isT (σ.1 0) x = true → ∀ k, k < 2 ^ 31 → y = nI k → ∀ b', Ag b' σ → post (besI (besF σ.1 (NN x) k (σ.1 0))) b') : P_L_call b (3 : Int32) x y z post := by
  obtain ⟨lc, po, pc, ps, tl, ts, bh, rc, brh, sl, sv⟩ := b
  obtain ⟨S, n, PS, tn, t, s2⟩ := σ
  obtain ⟨ok, hn, hok, htn, hsl⟩ := w
  obtain ⟨hC, ⟨o, rfl, hP⟩, rfl, rfl, hX, hS⟩ := hb
  exact kc3 (t_neighbor hC ok (fun e => h1 e _ ⟨hC, ⟨o, rfl, hP⟩, rfl, rfl, hX, hS⟩) (fun e f => h2 e f _ ⟨hC, ⟨o, rfl, hP⟩, rfl, rfl, hX, hS⟩) (fun e k hk f => h0 e k hk f _ ⟨hC, ⟨o, rfl, hP⟩, rfl, rfl, hX, hS⟩))
theorem k_found {b : MO} {σ : ST} (w : WF σ) (hb : Ag b σ) {x y z : Int32} {post : Int32 → MO → Prop}
    (h1 : σ.1 0 = 10 → ∀ b', Ag b' (σ) → post vS b')
    (h0 : σ.1 0 < 10 → ∀ b', Ag b' (psh σ (townS σ.1)) → post (nI (σ.1 0)) b') : P_L_call b (4 : Int32) x y z post := by
  obtain ⟨lc, po, pc, ps, tl, ts, bh, rc, brh, sl, sv⟩ := b
  obtain ⟨S, n, PS, tn, t, s2⟩ := σ
  obtain ⟨ok, hn, hok, htn, hsl⟩ := w
  obtain ⟨hC, ⟨o, rfl, hP⟩, rfl, rfl, hX, hS⟩ := hb
  exact kc4 (t_found hC ok hn hP (fun e => h1 e _ ⟨hC, ⟨o, rfl, hP⟩, rfl, rfl, hX, hS⟩) (fun e C' o' st' hc hp => h0 e _ ⟨hc, ⟨o', rfl, hp⟩, rfl, rfl, hX, hS⟩))
theorem k_lay {b : MO} {σ : ST} (w : WF σ) (hb : Ag b σ) {x y z : Int32} {post : Int32 → MO → Prop}
    (h1 : ¬ (isT (σ.1 0) x = true ∧ isT (σ.1 0) y = true) → ∀ b', Ag b' (σ) → post vI b')
    (h2 : isT (σ.1 0) x = true → isT (σ.1 0) y = true → (x = y ∨ isLen z = false) → ∀ b', Ag b' (σ) → post vA b')
    (h3 : isT (σ.1 0) x = true → isT (σ.1 0) y = true → x ≠ y → isLen z = true → canJ σ.1 x y z = false → ∀ b', Ag b' (σ) → post vS b')
    (h0 : canJ σ.1 x y z = true → ∀ b', Ag b' (psh σ (joinS σ.1 x y z)) → post (nI (cnt (joinS σ.1 x y z))) b') : P_L_call b (5 : Int32) x y z post := by
  obtain ⟨lc, po, pc, ps, tl, ts, bh, rc, brh, sl, sv⟩ := b
  obtain ⟨S, n, PS, tn, t, s2⟩ := σ
  obtain ⟨ok, hn, hok, htn, hsl⟩ := w
  obtain ⟨hC, ⟨o, rfl, hP⟩, rfl, rfl, hX, hS⟩ := hb
  exact kc5 (tt_lay hC ok hn hP (fun e => h1 e _ ⟨hC, ⟨o, rfl, hP⟩, rfl, rfl, hX, hS⟩) (fun e f g => h2 e f g _ ⟨hC, ⟨o, rfl, hP⟩, rfl, rfl, hX, hS⟩) (fun e f g i j => h3 e f g i j _ ⟨hC, ⟨o, rfl, hP⟩, rfl, rfl, hX, hS⟩) (fun e C' o' st' hc hp => h0 e _ ⟨hc, ⟨o', rfl, hp⟩, rfl, rfl, hX, hS⟩))
theorem k_tear {b : MO} {σ : ST} (w : WF σ) (hb : Ag b σ) {x y z : Int32} {post : Int32 → MO → Prop}
    (h1 : bothT σ.1 x y = false → ∀ b', Ag b' (σ) → post vI b')
    (h2 : bothT σ.1 x y = true → rdX σ.1 x y = 0 → ∀ b', Ag b' (σ) → post vS b')
    (h0 : 0 < rdX σ.1 x y → ∀ b', Ag b' (psh σ (cutS σ.1 x y)) → post (cR (rdX σ.1 x y)) b') : P_L_call b (6 : Int32) x y z post := by
  obtain ⟨lc, po, pc, ps, tl, ts, bh, rc, brh, sl, sv⟩ := b
  obtain ⟨S, n, PS, tn, t, s2⟩ := σ
  obtain ⟨ok, hn, hok, htn, hsl⟩ := w
  obtain ⟨hC, ⟨o, rfl, hP⟩, rfl, rfl, hX, hS⟩ := hb
  exact kc6 (t_tear hC ok hn hP (fun e => h1 e _ ⟨hC, ⟨o, rfl, hP⟩, rfl, rfl, hX, hS⟩) (fun e f => h2 e f _ ⟨hC, ⟨o, rfl, hP⟩, rfl, rfl, hX, hS⟩) (fun e C' o' st' hc hp => h0 e _ ⟨hc, ⟨o', rfl, hp⟩, rfl, rfl, hX, hS⟩))
theorem k_seeAll {b : MO} {σ : ST} (w : WF σ) (hb : Ag b σ) {x y z : Int32} {post : Int32 → MO → Prop}
    (h1 : ¬ feS σ = none → ∀ b', Ag b' (σ) → post vS b')
    (h0 : feS σ = none → ∀ b', Ag b' (psh σ (redS σ)) → post (nI (redO σ)) b') : P_L_call b (7 : Int32) x y z post := by
  obtain ⟨lc, po, pc, ps, tl, ts, bh, rc, brh, sl, sv⟩ := b
  obtain ⟨S, n, PS, tn, t, s2⟩ := σ
  obtain ⟨ok, hn, hok, htn, hsl⟩ := w
  obtain ⟨hC, ⟨o, rfl, hP⟩, rfl, rfl, hX, hS⟩ := hb
  exact kc7 (t_seeAll hC ok hn hP htn hX (fun e => h1 e _ ⟨hC, ⟨o, rfl, hP⟩, rfl, rfl, hX, hS⟩) (fun e C' o' st' hc hp => h0 e _ ⟨hc, ⟨o', rfl, hp⟩, rfl, rfl, hX, hS⟩))
theorem k_forget {b : MO} {σ : ST} (w : WF σ) (hb : Ag b σ) {x y z : Int32} {post : Int32 → MO → Prop}
    (h1 : isT (σ.1 0) x = false → ∀ b', Ag b' (σ) → post vI b')
    (h2 : isT (σ.1 0) x = true → isT 6 y = false → ∀ b', Ag b' (σ) → post vA b')
    (h0 : isPair σ.1 x y = true → ∀ b', Ag b' (psh σ (dropS σ.1 (NN x) (NN y))) → post (bI (repd σ.1 (NN x) (NN y))) b') : P_L_call b (8 : Int32) x y z post := by
  obtain ⟨lc, po, pc, ps, tl, ts, bh, rc, brh, sl, sv⟩ := b
  obtain ⟨S, n, PS, tn, t, s2⟩ := σ
  obtain ⟨ok, hn, hok, htn, hsl⟩ := w
  obtain ⟨hC, ⟨o, rfl, hP⟩, rfl, rfl, hX, hS⟩ := hb
  exact kc8 (t_forget hC ok hn hP (fun e => h1 e _ ⟨hC, ⟨o, rfl, hP⟩, rfl, rfl, hX, hS⟩) (fun e f => h2 e f _ ⟨hC, ⟨o, rfl, hP⟩, rfl, rfl, hX, hS⟩) (fun e C' o' st' hc hp => h0 e _ ⟨hc, ⟨o', rfl, hp⟩, rfl, rfl, hX, hS⟩))
theorem k_undo {b : MO} {σ : ST} (w : WF σ) (hb : Ag b σ) {x y z : Int32} {post : Int32 → MO → Prop}
    (h1 : σ.2.1 = 0 → ∀ b', Ag b' (σ) → post vS b')
    (h0 : 0 < σ.2.1 → ∀ b', Ag b' (und σ) → post (nI (σ.2.1 - 1)) b') : P_L_call b (9 : Int32) x y z post := by
  obtain ⟨lc, po, pc, ps, tl, ts, bh, rc, brh, sl, sv⟩ := b
  obtain ⟨S, n, PS, tn, t, s2⟩ := σ
  obtain ⟨ok, hn, hok, htn, hsl⟩ := w
  obtain ⟨hC, ⟨o, rfl, hP⟩, rfl, rfl, hX, hS⟩ := hb
  exact kc9 (t_undo hC hn hP (fun e => h1 e _ ⟨hC, ⟨o, rfl, hP⟩, rfl, rfl, hX, hS⟩) (fun e C' hc => h0 e _ ⟨hc, ⟨o, rfl, ⟨hP.1, fun j hj => hP.2 j (show j < n by have : j < n - 1 := hj; omega)⟩⟩, rfl, rfl, hX, hS⟩))
theorem k_inventions {b : MO} {σ : ST} (w : WF σ) (hb : Ag b σ) {x y z : Int32} {post : Int32 → MO → Prop}
    (h1 : isT 6 x = false → ∀ b', Ag b' (σ) → post vA b')
    (h0 : ∀ k, k < 6 → x = nI k → ∀ b', Ag b' σ → post (feI (FL σ.1 k)) b') : P_L_call b (10 : Int32) x y z post := by
  obtain ⟨lc, po, pc, ps, tl, ts, bh, rc, brh, sl, sv⟩ := b
  obtain ⟨S, n, PS, tn, t, s2⟩ := σ
  obtain ⟨ok, hn, hok, htn, hsl⟩ := w
  obtain ⟨hC, ⟨o, rfl, hP⟩, rfl, rfl, hX, hS⟩ := hb
  exact kc10 (t_inventions hC ok (fun e => h1 e _ ⟨hC, ⟨o, rfl, hP⟩, rfl, rfl, hX, hS⟩) (fun k hk e b' => h0 k hk e _ ⟨hC, ⟨o, rfl, hP⟩, rfl, rfl, hX, hS⟩))
theorem k_invented {b : MO} {σ : ST} (w : WF σ) (hb : Ag b σ) {x y z : Int32} {post : Int32 → MO → Prop}
    (h1 : (isT 6 x && isT 3 y) = false → ∀ b', Ag b' (σ) → post vA b')
    (h0 : isT 3 y = true → ∀ k, k < 6 → x = nI k → ∀ b', Ag b' σ → post (ivI (FL σ.1 k) y) b') : P_L_call b (11 : Int32) x y z post := by
  obtain ⟨lc, po, pc, ps, tl, ts, bh, rc, brh, sl, sv⟩ := b
  obtain ⟨S, n, PS, tn, t, s2⟩ := σ
  obtain ⟨ok, hn, hok, htn, hsl⟩ := w
  obtain ⟨hC, ⟨o, rfl, hP⟩, rfl, rfl, hX, hS⟩ := hb
  exact kc11 (t_invented hC ok (fun e => h1 e _ ⟨hC, ⟨o, rfl, hP⟩, rfl, rfl, hX, hS⟩) (fun f k hk e b' => h0 f k hk e _ ⟨hC, ⟨o, rfl, hP⟩, rfl, rfl, hX, hS⟩))
theorem k_choices {b : MO} {σ : ST} (w : WF σ) (hb : Ag b σ) {x y z : Int32} {post : Int32 → MO → Prop}
    (h1 : isT 6 x = false → ∀ b', Ag b' (σ) → post vA b')
    (h0 : ∀ k, k < 6 → x = nI k → ∀ b', Ag b' σ → post (chI (FL σ.1 k)) b') : P_L_call b (12 : Int32) x y z post := by
  obtain ⟨lc, po, pc, ps, tl, ts, bh, rc, brh, sl, sv⟩ := b
  obtain ⟨S, n, PS, tn, t, s2⟩ := σ
  obtain ⟨ok, hn, hok, htn, hsl⟩ := w
  obtain ⟨hC, ⟨o, rfl, hP⟩, rfl, rfl, hX, hS⟩ := hb
  exact kc12 (t_choices hC ok (fun e => h1 e _ ⟨hC, ⟨o, rfl, hP⟩, rfl, rfl, hX, hS⟩) (fun k hk e b' => h0 k hk e _ ⟨hC, ⟨o, rfl, hP⟩, rfl, rfl, hX, hS⟩))
theorem k_since {b : MO} {σ : ST} (w : WF σ) (hb : Ag b σ) {x y z : Int32} {post : Int32 → MO → Prop}
    (h1 : isT (σ.1 0) x = false → ∀ b', Ag b' (σ) → post vI b')
    (h2 : isT (σ.1 0) x = true → isT 6 y = false → ∀ b', Ag b' (σ) → post vA b')
    (h0 : isT (σ.1 0) x = true → isT 6 y = true → ∀ b', Ag b' (σ) → post (sinceI σ.1 (NN x) (NN y)) b') : P_L_call b (13 : Int32) x y z post := by
  obtain ⟨lc, po, pc, ps, tl, ts, bh, rc, brh, sl, sv⟩ := b
  obtain ⟨S, n, PS, tn, t, s2⟩ := σ
  obtain ⟨ok, hn, hok, htn, hsl⟩ := w
  obtain ⟨hC, ⟨o, rfl, hP⟩, rfl, rfl, hX, hS⟩ := hb
  exact kc13 (t_since hC ok (fun e => h1 e _ ⟨hC, ⟨o, rfl, hP⟩, rfl, rfl, hX, hS⟩) (fun e f => h2 e f _ ⟨hC, ⟨o, rfl, hP⟩, rfl, rfl, hX, hS⟩) (fun e f b' => h0 e f _ ⟨hC, ⟨o, rfl, hP⟩, rfl, rfl, hX, hS⟩))
theorem k_reached {b : MO} {σ : ST} (w : WF σ) (hb : Ag b σ) {x y z : Int32} {post : Int32 → MO → Prop}
    (h1 : (isT 6 x = false ∨ y < 0) → ∀ b', Ag b' (σ) → post vA b')
    (h0 : ∀ j k, j < 6 → k < 2 ^ 31 → x = nI j → y = nI k → ∀ b', Ag b' σ → post (besI (firstF (ordP (σ.1 0) (yrs σ.1 j) k) (σ.1 0))) b') : P_L_call b (14 : Int32) x y z post := by
  obtain ⟨lc, po, pc, ps, tl, ts, bh, rc, brh, sl, sv⟩ := b
  obtain ⟨S, n, PS, tn, t, s2⟩ := σ
  obtain ⟨ok, hn, hok, htn, hsl⟩ := w
  obtain ⟨hC, ⟨o, rfl, hP⟩, rfl, rfl, hX, hS⟩ := hb
  exact kc14 (t_reached hC ok (fun e => h1 e _ ⟨hC, ⟨o, rfl, hP⟩, rfl, rfl, hX, hS⟩) (fun j k hj hk e f b' => h0 j k hj hk e f _ ⟨hC, ⟨o, rfl, hP⟩, rfl, rfl, hX, hS⟩))
theorem k_passed {b : MO} {σ : ST} (w : WF σ) (hb : Ag b σ) {x y z : Int32} {post : Int32 → MO → Prop}
    (h1 : bothT σ.1 x y = false → ∀ b', Ag b' (σ) → post vI b')
    (h2 : bothT σ.1 x y = true → isT 6 z = false → ∀ b', Ag b' (σ) → post vA b')
    (h0 : ∀ a c k, a < σ.1 0 → c < σ.1 0 → k < 6 → x = nI a → y = nI c → z = nI k → ∀ b', Ag b' σ → post (passV σ.1 k a c) b') : P_L_call b (15 : Int32) x y z post := by
  obtain ⟨lc, po, pc, ps, tl, ts, bh, rc, brh, sl, sv⟩ := b
  obtain ⟨S, n, PS, tn, t, s2⟩ := σ
  obtain ⟨ok, hn, hok, htn, hsl⟩ := w
  obtain ⟨hC, ⟨o, rfl, hP⟩, rfl, rfl, hX, hS⟩ := hb
  exact kc15 (t_passed hC ok (fun e => h1 e _ ⟨hC, ⟨o, rfl, hP⟩, rfl, rfl, hX, hS⟩) (fun e f => h2 e f _ ⟨hC, ⟨o, rfl, hP⟩, rfl, rfl, hX, hS⟩) (fun a c k ha hc hk e f g b' => h0 a c k ha hc hk e f g _ ⟨hC, ⟨o, rfl, hP⟩, rfl, rfl, hX, hS⟩))
theorem k_ifLaid {b : MO} {σ : ST} (w : WF σ) (hb : Ag b σ) {x y z : Int32} {post : Int32 → MO → Prop}
    (h1 : ¬ (isT (σ.1 0) x = true ∧ isT (σ.1 0) y = true) → ∀ b', Ag b' (σ) → post vI b')
    (h2 : isT (σ.1 0) x = true → isT (σ.1 0) y = true → (x = y ∨ isLen z = false) → ∀ b', Ag b' (σ) → post vA b')
    (h3 : isT (σ.1 0) x = true → isT (σ.1 0) y = true → x ≠ y → isLen z = true → canJ σ.1 x y z = false → ∀ b', Ag b' (σ) → post vS b')
    (h0 : canJ σ.1 x y z = true → ∀ b', Ag b' (σ) → post (nI (allN (joinS σ.1 x y z))) b') : P_L_call b (16 : Int32) x y z post := by
  obtain ⟨lc, po, pc, ps, tl, ts, bh, rc, brh, sl, sv⟩ := b
  obtain ⟨S, n, PS, tn, t, s2⟩ := σ
  obtain ⟨ok, hn, hok, htn, hsl⟩ := w
  obtain ⟨hC, ⟨o, rfl, hP⟩, rfl, rfl, hX, hS⟩ := hb
  exact kc16 (t_ifLaid hC ok (fun e => h1 e _ ⟨hC, ⟨o, rfl, hP⟩, rfl, rfl, hX, hS⟩) (fun e f g => h2 e f g _ ⟨hC, ⟨o, rfl, hP⟩, rfl, rfl, hX, hS⟩) (fun e f g i j => h3 e f g i j _ ⟨hC, ⟨o, rfl, hP⟩, rfl, rfl, hX, hS⟩) (fun e m' b' => h0 e _ ⟨hC, ⟨o, rfl, hP⟩, rfl, rfl, hX, hS⟩))
theorem k_bestRoad {b : MO} {σ : ST} (w : WF σ) (hb : Ag b σ) {x y z : Int32} {post : Int32 → MO → Prop}
    (h1 : isLen x = false → ∀ b', Ag b' (σ) → post vA b')
    (h0 : isLen x = true → ∀ b', Ag b' (σ) → post (brI (brOut σ.1 x (σ.1 0))) b') : P_L_call b (17 : Int32) x y z post := by
  obtain ⟨lc, po, pc, ps, tl, ts, bh, rc, brh, sl, sv⟩ := b
  obtain ⟨S, n, PS, tn, t, s2⟩ := σ
  obtain ⟨ok, hn, hok, htn, hsl⟩ := w
  obtain ⟨hC, ⟨o, rfl, hP⟩, rfl, rfl, hX, hS⟩ := hb
  exact kc17 (t_bestRoad hC ok (fun e => h1 e _ ⟨hC, ⟨o, rfl, hP⟩, rfl, rfl, hX, hS⟩) (fun e m' b' => h0 e _ ⟨hC, ⟨o, rfl, hP⟩, rfl, rfl, hX, hS⟩))
theorem k_keep {b : MO} {σ : ST} (w : WF σ) (hb : Ag b σ) {x y z : Int32} {post : Int32 → MO → Prop}
    (h1 : isT 2 x = false → ∀ b', Ag b' (σ) → post vI b')
    (h0 : isT 2 x = true → ∀ b', Ag b' (kep σ (NN x)) → post (nI (σ.1 0)) b') : P_L_call b (18 : Int32) x y z post := by
  obtain ⟨lc, po, pc, ps, tl, ts, bh, rc, brh, sl, sv⟩ := b
  obtain ⟨S, n, PS, tn, t, s2⟩ := σ
  obtain ⟨ok, hn, hok, htn, hsl⟩ := w
  obtain ⟨hC, ⟨o, rfl, hP⟩, rfl, rfl, hX, hS⟩ := hb
  exact kc18 (t_keep hC hS (fun e => h1 e _ ⟨hC, ⟨o, rfl, hP⟩, rfl, rfl, hX, hS⟩) (fun e s' v' hs' => h0 e _ ⟨hC, ⟨o, rfl, hP⟩, rfl, rfl, hX, hs'⟩))
theorem k_back {b : MO} {σ : ST} (w : WF σ) (hb : Ag b σ) {x y z : Int32} {post : Int32 → MO → Prop}
    (h1 : isT 2 x = false → ∀ b', Ag b' (σ) → post vI b')
    (h2 : isT 2 x = true → σ.2.2.2.2.2 (NN x) = none → ∀ b', Ag b' (σ) → post vS b')
    (h0 : isT 2 x = true → ∀ S', σ.2.2.2.2.2 (NN x) = some S' → ∀ b', Ag b' (bak σ S') → post (nI (S' 0)) b') : P_L_call b (19 : Int32) x y z post := by
  obtain ⟨lc, po, pc, ps, tl, ts, bh, rc, brh, sl, sv⟩ := b
  obtain ⟨S, n, PS, tn, t, s2⟩ := σ
  obtain ⟨ok, hn, hok, htn, hsl⟩ := w
  obtain ⟨hC, ⟨o, rfl, hP⟩, rfl, rfl, hX, hS⟩ := hb
  exact kc19 (t_back hS (fun e => h1 e _ ⟨hC, ⟨o, rfl, hP⟩, rfl, rfl, hX, hS⟩) (fun e f => h2 e f _ ⟨hC, ⟨o, rfl, hP⟩, rfl, rfl, hX, hS⟩) (fun e S' C' f hc => h0 e S' f _ ⟨hc, ⟨o, rfl, ⟨hP.1, fun j hj => absurd hj (Nat.not_lt_zero _)⟩⟩, rfl, rfl, hX, hS⟩))
theorem k_report {b : MO} {σ : ST} (w : WF σ) (hb : Ag b σ) {x t has : Int32} {post : Int32 → Prop} (h1 : isT (σ.1 0) x = false → post vI) (h2 : isT (σ.1 0) x = true → isT 6 t = false → post vA) (h0 : isT (σ.1 0) x = true → isT 6 t = true → post (cY (yrX σ.1 x t has))) : P_L_tryReport b.1 x t has post :=
  t_report hb.land w.ok h1 h2 h0
abbrev wth (b : MO) (m1 : Nat → Int32) (m2 m3 : Int32) (m4 : Nat → Nat → Int32) : MO := (m1, m2, m3, m4, b.2.2.2.2)
abbrev rhs (b : MO) (m1 : Nat → Int32) (m2 : BH) : MO := (b.1, b.2.1, b.2.2.1, b.2.2.2.1, b.2.2.2.2.1, b.2.2.2.2.2.1, b.2.2.2.2.2.2.1, m1, m2, b.2.2.2.2.2.2.2.2.2)
theorem k_see {b : MO} {σ : ST} (w : WF σ) (hb : Ag b σ) {x t y has : Int32} {post : Int32 → (Nat → Int32) → Int32 → Int32 → (Nat → Nat → Int32) → Prop} (h1 : isT (σ.1 0) x = false → ∀ m1 m2 m3 m4, Ag (wth b m1 m2 m3 m4) σ → post vI m1 m2 m3 m4) (h2 : isT (σ.1 0) x = true → isNote σ.1 x t y = false → ∀ m1 m2 m3 m4, Ag (wth b m1 m2 m3 m4) σ → post vA m1 m2 m3 m4)
    (h0 : isNote σ.1 x t y = true → ∀ m1 m2 m3 m4, Ag (wth b m1 m2 m3 m4) (psh σ (noteS σ.1 (NN x) (NN t) (NN y) has)) → post (bI (noteN σ.1 (NN x) (NN t) (NN y) has)) m1 m2 m3 m4) : P_L_trySee b.1 b.2.1 b.2.2.1 b.2.2.2.1 x t y has post := by
  obtain ⟨lc, po, pc, ps, tl, ts, bh, rc, brh, sl, sv⟩ := b
  obtain ⟨S, n, PS, tn, tx, s2⟩ := σ
  obtain ⟨ok, hn, hok, htn, hsl⟩ := w
  obtain ⟨hC, ⟨o, rfl, hP⟩, rfl, rfl, hX, hS⟩ := hb
  exact t_see hC ok hn hP (fun e => h1 e _ _ _ _ ⟨hC, ⟨o, rfl, hP⟩, rfl, rfl, hX, hS⟩) (fun e f => h2 e f _ _ _ _ ⟨hC, ⟨o, rfl, hP⟩, rfl, rfl, hX, hS⟩) (fun e C' o' st' hc hp => h0 e _ _ _ _ ⟨hc, ⟨o', rfl, hp⟩, rfl, rfl, hX, hS⟩)
theorem Ag_rhs {b : MO} {σ : ST} (h : Ag b σ) (m1 : Nat → Int32) (m2 : BH) : Ag (rhs b m1 m2) σ := by
  obtain ⟨lc, po, pc, ps, tl, ts, bh, rc, brh, sl, sv⟩ := b
  obtain ⟨S, n, PS, tn, t, s2⟩ := σ
  exact h
theorem k_script {b : MO} {σ : ST} (w : WF σ) (hb : Ag b σ) {x : Int32} {y : Int64} {m1 : Nat → Int32} {m2 : BH} {post : Int32 → (Nat → Int32) → BH → Prop} (h1 : okR x y = false → ∀ m' b', post vA m' b') (h0 : okR x y = true → ∀ m' b', post (runI y.toInt.toNat (NN x) (NN x) σ.1) m' b') : P_L_tryScript b.1 m1 m2 x y post :=
  t_script hb.land w.ok (fun e => h1 e _ _) h0
theorem k_simulate {b : MO} {σ : ST} (w : WF σ) (hb : Ag b σ) {x : Int64} {m : Int32} {m1 : Nat → Int32} {m2 : BH} {post : Int32 → (Nat → Int32) → BH → Prop} (h1 : isLen m = false → ∀ m' b', post vA m' b') (h0 : isLen m = true → ∀ m' b', post (sumI (simS (NN m) x σ.1)) m' b') : P_L_trySimulate b.1 m1 m2 x m post :=
  t_simulate hb.land w.ok (fun e => h1 e _ _) h0
theorem k_dearest {b : MO} {σ : ST} (w : WF σ) (hb : Ag b σ) {m1 : Nat → Int32} {m2 : BH} {post : Int32 → (Nat → Int32) → BH → Prop} (h : ∀ m' b', post (besI (deOut σ.1 (σ.1 0)).1) m' b') : P_X5_dearest b.1 m1 m2 post :=
  t_dearest hb.land w.ok h
theorem k_error {b : MO} {σ : ST} (w : WF σ) (hb : Ag b σ) {post : Int32 → Prop} (h : post (awI (feS σ))) : P_X5_errorPosition b.2.2.2.2.1 b.2.2.2.2.2.1 post := by
  obtain ⟨lc, po, pc, ps, tl, ts, bh, rc, brh, sl, sv⟩ := b
  obtain ⟨S, n, PS, tn, t, s2⟩ := σ
  obtain ⟨ok, hn, hok, htn, hsl⟩ := w
  obtain ⟨hC, ⟨o, rfl, hP⟩, rfl, rfl, hX, hS⟩ := hb
  unfold P_X5_errorPosition
  exact x4_firstError htn hX h
theorem k_clear {b : MO} {σ : ST} (w : WF σ) (hb : Ag b σ) {post : Int32 → Int32 → Prop} (h : ∀ r m, Ag (b.1, b.2.1, b.2.2.1, b.2.2.2.1, m, b.2.2.2.2.2) (clr σ) → post r m) : P_X5_clearText b.2.2.2.2.1 post := by
  obtain ⟨lc, po, pc, ps, tl, ts, bh, rc, brh, sl, sv⟩ := b
  obtain ⟨S, n, PS, tn, t, s2⟩ := σ
  obtain ⟨ok, hn, hok, htn, hsl⟩ := w
  obtain ⟨hC, ⟨o, rfl, hP⟩, rfl, rfl, hX, hS⟩ := hb
  unfold P_X5_clearText P_X4_empty
  exact h _ _ ⟨hC, ⟨o, rfl, hP⟩, rfl, rfl, fun i hi => absurd hi (Nat.not_lt_zero _), hS⟩
