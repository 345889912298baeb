noncomputable def jf_X4_within (a1 : Int32) (a2 : Int32) (a3 : Int32) (M : jl_Mem) : Option (Int32 × jl_Mem) :=
  if a1 < a2 then (
  jl_chk (jl_isB (0 : Int32)) (some ((0 : Int32), M))) else (
  if a3 < a1 then (
  jl_chk (jl_isB (0 : Int32)) (some ((0 : Int32), M))) else (
  jl_chk (jl_isB (1 : Int32)) (some ((1 : Int32), M))))

noncomputable def jf_X0_hasThing (a1 : Int32) (M : jl_Mem) : Option (Int32 × jl_Mem) :=
  jl_bnd (jf_X4_within a1 (0 : Int32) ((M 1 0) - (1 : Int32)) M) (fun r_1 M_2 =>
  jl_chk (jl_isB r_1) (some (r_1, M_2)))

noncomputable def jf_X0_hasList (a1 : Int32) (M : jl_Mem) : Option (Int32 × jl_Mem) :=
  jl_bnd (jf_X4_within a1 (0 : Int32) ((M 1 1) - (1 : Int32)) M) (fun r_1 M_2 =>
  jl_chk (jl_isB r_1) (some (r_1, M_2)))

noncomputable def jf_X0_mayAskFor (a1 : Int32) (M : jl_Mem) : Option (Int32 × jl_Mem) :=
  jl_bnd (jf_X4_within a1 (1 : Int32) (M 1 0) M) (fun r_1 M_2 =>
  jl_chk (jl_isB r_1) (some (r_1, M_2)))

noncomputable def jf_X0_isDepth (a1 : Int32) (a2 : Int32) (M : jl_Mem) : Option (Int32 × jl_Mem) :=
  jl_bnd (jf_X0_hasList a1 M) (fun r_1 M_2 =>
  if r_1 = 0 then (
  jl_bnd (jf_X4_within a2 (0 : Int32) (0 : Int32) M_2) (fun r_5 M_6 =>
  jl_chk (jl_isB r_5) (some (r_5, M_6)))) else (
  jl_chk (jl_inb a1 4) (
  jl_bnd (jf_X4_within a2 (0 : Int32) (M_2 5 a1.toNatClampNeg) M_2) (fun r_10 M_11 =>
  jl_chk (jl_isB r_10) (some (r_10, M_11))))))

noncomputable def jf_X0_depthRows_L4 (x1L4 : Int32) (x2L4 : Int32) (ML4 : jl_Mem) : Option ((Int32 × Int32 × jl_Mem) ⊕ (Int32 × jl_Mem)) :=
  if (ML4 1 1) ≤ x2L4 then (
  some (.inr (x1L4, ML4))) else (
  jl_chk (jl_inb x2L4 4) (
  jl_lt (x1L4 * ((ML4 5 x2L4.toNatClampNeg) + (1 : Int32))) (fun (x1_5 : Int32) =>
  jl_lt (x2L4 + 1) (fun (x2_6 : Int32) =>
  some (.inl (x1_5, x2_6, ML4))))))

noncomputable def jf_X0_depthRows (M : jl_Mem) : Option (Int32 × jl_Mem) :=
  jl_lt (1 : Int32) (fun (x1_1 : Int32) =>
  jl_lt (0 : Int32) (fun (x2_2 : Int32) =>
  jl_wh (fun q => jf_X0_depthRows_L4 q.1 q.2.1 q.2.2) jl_F (x1_1, x2_2, M)))

noncomputable def jf_X0_addList (a1 : Int32) (a2 : Int32) (a3 : Int32) (M : jl_Mem) : Option (Int32 × jl_Mem) :=
  jl_lt (M 1 1) (fun (x4_1 : Int32) =>
  jl_chk (jl_inb x4_1 4) (
  jl_lt (jl_st M 2 x4_1.toNatClampNeg a1) (fun (M_3 : jl_Mem) =>
  jl_chk (jl_inb x4_1 4) (
  jl_lt (jl_st M_3 3 x4_1.toNatClampNeg a2) (fun (M_5 : jl_Mem) =>
  jl_chk (jl_inb x4_1 4) (
  jl_lt (jl_st M_5 4 x4_1.toNatClampNeg a3) (fun (M_7 : jl_Mem) =>
  jl_lt (jl_st M_7 1 1 ((M_7 1 1) + (1 : Int32))) (fun (M_8 : jl_Mem) =>
  some (x4_1, M_8)))))))))

noncomputable def jf_X4_yes (a1 : Int32) (M : jl_Mem) : Option (Int32 × jl_Mem) :=
  if a1 = 0 then (
  some ((0 : Int32), M)) else (
  some ((1 : Int32), M))

noncomputable def jf_X4_comesFirst (a1 : Int32) (a2 : Int32) (a3 : Int32) (a4 : Int32) (M : jl_Mem) : Option (Int32 × jl_Mem) :=
  if a4 < a2 then (
  jl_chk (jl_isB (1 : Int32)) (some ((1 : Int32), M))) else (
  if a2 = a4 then (
  if a3 ≤ a1 then (
  jl_chk (jl_isB (0 : Int32)) (some ((0 : Int32), M))) else (
  jl_chk (jl_isB (1 : Int32)) (some ((1 : Int32), M)))) else (
  jl_chk (jl_isB (0 : Int32)) (some ((0 : Int32), M))))

noncomputable def jf_X0_rankOf_L5 (a1 : Int32) (a2 : Nat) (x3L5 : Int32) (x4L5 : Int32) (ML5 : jl_Mem) : Option ((Int32 × Int32 × jl_Mem) ⊕ (Int32 × jl_Mem)) :=
  if (ML5 1 0) ≤ x4L5 then (
  some (.inr (x3L5, ML5))) else (
  jl_chk (jl_inb x4L5 (jx_len a2)) (
  jl_chk (jl_inb a1 (jx_len a2)) (
  jl_bnd (jf_X4_comesFirst x4L5 (ML5 a2 x4L5.toNatClampNeg) a1 (ML5 a2 a1.toNatClampNeg) ML5) (fun r_6 M_7 =>
  if r_6 = 0 then (
  jl_lt (x4L5 + 1) (fun (x4_10 : Int32) =>
  some (.inl (x3L5, x4_10, M_7)))) else (
  jl_lt (x3L5 + 1) (fun (x3_11 : Int32) =>
  jl_lt (x4L5 + 1) (fun (x4_12 : Int32) =>
  some (.inl (x3_11, x4_12, M_7)))))))))

noncomputable def jf_X0_rankOf (a1 : Int32) (a2 : Nat) (M : jl_Mem) : Option (Int32 × jl_Mem) :=
  jl_lt (0 : Int32) (fun (x3_1 : Int32) =>
  jl_lt (0 : Int32) (fun (x4_2 : Int32) =>
  jl_wh (fun q => jf_X0_rankOf_L5 a1 a2 q.1 q.2.1 q.2.2) jl_F (x3_1, x4_2, M)))

noncomputable def jf_X0_orderRow_L9 (a1 : Int32) (x3L9 : Int32) (ML9 : jl_Mem) : Option ((Int32 × jl_Mem) ⊕ (Int32 × jl_Mem)) :=
  if (ML9 1 0) ≤ x3L9 then (
  some (.inr (0, ML9))) else (
  jl_chk (jl_inb x3L9 20) (
  if (ML9 (7 + a1.toNatClampNeg) x3L9.toNatClampNeg) = 0 then (
  jl_lt (x3L9 + 1) (fun (x3_6 : Int32) =>
  some (.inl (x3_6, ML9)))) else (
  jl_bnd (jf_X0_rankOf x3L9 (7 + a1.toNatClampNeg) ML9) (fun r_7 M_8 =>
  jl_lt r_7 (fun (x4_10 : Int32) =>
  jl_chk (jl_inb a1 4) (
  jl_chk (jl_inb x3L9 20) (
  jl_lt (jl_st M_8 (17 + a1.toNatClampNeg) x3L9.toNatClampNeg x4_10) (fun (M_13 : jl_Mem) =>
  jl_chk (jl_inb a1 4) (
  jl_chk (jl_inb x4_10 20) (
  jl_lt (jl_st M_13 (12 + a1.toNatClampNeg) x4_10.toNatClampNeg x3L9) (fun (M_16 : jl_Mem) =>
  jl_lt (x3L9 + 1) (fun (x3_17 : Int32) =>
  some (.inl (x3_17, M_16))))))))))))))

noncomputable def jf_X0_orderRow (a1 : Int32) (M : jl_Mem) : Option (Int32 × jl_Mem) :=
  jl_chk (jl_inb a1 4) (
  jl_lt (0 : Int32) (fun (x3_2 : Int32) =>
  jl_wh (fun q => jf_X0_orderRow_L9 a1 q.1 q.2) jl_F (x3_2, M)))

noncomputable def jf_X0_setMark (a1 : Int32) (a2 : Int32) (a3 : Int32) (M : jl_Mem) : Option (Int32 × jl_Mem) :=
  if a3 = 0 then (
  jl_bnd (jf_X4_yes (0 : Int32) M) (fun r_2 M_3 =>
  jl_chk (jl_inb a1 4) (
  jl_chk (jl_inb a2 20) (
  if (M_3 (7 + a1.toNatClampNeg) a2.toNatClampNeg) = 0 then (
  jl_bnd (jf_X4_yes (0 : Int32) M_3) (fun r_8 M_9 =>
  jl_lt (r_2 - r_8) (fun (x4_11 : Int32) =>
  jl_chk (jl_inb a1 4) (
  jl_chk (jl_inb a2 20) (
  jl_lt (jl_st M_9 (7 + a1.toNatClampNeg) a2.toNatClampNeg a3) (fun (M_14 : jl_Mem) =>
  jl_chk (jl_inb a1 4) (
  jl_chk (jl_inb a1 4) (
  jl_lt (jl_st M_14 5 a1.toNatClampNeg ((M_14 5 a1.toNatClampNeg) + x4_11)) (fun (M_17 : jl_Mem) =>
  jl_lt (jl_st M_17 1 2 ((M_17 1 2) + x4_11)) (fun (M_18 : jl_Mem) =>
  jl_bnd (jf_X0_orderRow a1 M_18) (fun r_19 M_20 =>
  some (0, M_20)))))))))))) else (
  jl_bnd (jf_X4_yes (1 : Int32) M_3) (fun r_22 M_23 =>
  jl_lt (r_2 - r_22) (fun (x4_25 : Int32) =>
  jl_chk (jl_inb a1 4) (
  jl_chk (jl_inb a2 20) (
  jl_lt (jl_st M_23 (7 + a1.toNatClampNeg) a2.toNatClampNeg a3) (fun (M_28 : jl_Mem) =>
  jl_chk (jl_inb a1 4) (
  jl_chk (jl_inb a1 4) (
  jl_lt (jl_st M_28 5 a1.toNatClampNeg ((M_28 5 a1.toNatClampNeg) + x4_25)) (fun (M_31 : jl_Mem) =>
  jl_lt (jl_st M_31 1 2 ((M_31 1 2) + x4_25)) (fun (M_32 : jl_Mem) =>
  jl_bnd (jf_X0_orderRow a1 M_32) (fun r_33 M_34 =>
  some (0, M_34)))))))))))))))) else (
  jl_bnd (jf_X4_yes (1 : Int32) M) (fun r_36 M_37 =>
  jl_chk (jl_inb a1 4) (
  jl_chk (jl_inb a2 20) (
  if (M_37 (7 + a1.toNatClampNeg) a2.toNatClampNeg) = 0 then (
  jl_bnd (jf_X4_yes (0 : Int32) M_37) (fun r_42 M_43 =>
  jl_lt (r_36 - r_42) (fun (x4_45 : Int32) =>
  jl_chk (jl_inb a1 4) (
  jl_chk (jl_inb a2 20) (
  jl_lt (jl_st M_43 (7 + a1.toNatClampNeg) a2.toNatClampNeg a3) (fun (M_48 : jl_Mem) =>
  jl_chk (jl_inb a1 4) (
  jl_chk (jl_inb a1 4) (
  jl_lt (jl_st M_48 5 a1.toNatClampNeg ((M_48 5 a1.toNatClampNeg) + x4_45)) (fun (M_51 : jl_Mem) =>
  jl_lt (jl_st M_51 1 2 ((M_51 1 2) + x4_45)) (fun (M_52 : jl_Mem) =>
  jl_bnd (jf_X0_orderRow a1 M_52) (fun r_53 M_54 =>
  some (0, M_54)))))))))))) else (
  jl_bnd (jf_X4_yes (1 : Int32) M_37) (fun r_56 M_57 =>
  jl_lt (r_36 - r_56) (fun (x4_59 : Int32) =>
  jl_chk (jl_inb a1 4) (
  jl_chk (jl_inb a2 20) (
  jl_lt (jl_st M_57 (7 + a1.toNatClampNeg) a2.toNatClampNeg a3) (fun (M_62 : jl_Mem) =>
  jl_chk (jl_inb a1 4) (
  jl_chk (jl_inb a1 4) (
  jl_lt (jl_st M_62 5 a1.toNatClampNeg ((M_62 5 a1.toNatClampNeg) + x4_59)) (fun (M_65 : jl_Mem) =>
  jl_lt (jl_st M_65 1 2 ((M_65 1 2) + x4_59)) (fun (M_66 : jl_Mem) =>
  jl_bnd (jf_X0_orderRow a1 M_66) (fun r_67 M_68 =>
  some (0, M_68))))))))))))))))

noncomputable def jf_X0_combined_L13 (a1 : Nat) (x2L13 : Int32) (x3L13 : Int32) (x4L13 : Int32) (x5L13 : Int32) (x6L13 : Int32) (ML13 : jl_Mem) : Option ((Int32 × Int32 × Int32 × Int32 × Int32 × jl_Mem) ⊕ (Int32 × jl_Mem)) :=
  if (ML13 1 1) ≤ x6L13 then (
  if (ML13 1 3) = 0 then (
  some (.inr (x3L13, ML13))) else (
  if (ML13 1 3) = (1 : Int32) then (
  some (.inr (x4L13, ML13))) else (
  some (.inr (x5L13, ML13))))) else (
  jl_chk (jl_inb x6L13 4) (
  if (ML13 2 x6L13.toNatClampNeg) ≤ 0 then (
  jl_lt (x6L13 + 1) (fun (x6_11 : Int32) =>
  some (.inl (x2L13, x3L13, x4L13, x5L13, x6_11, ML13)))) else (
  jl_chk (jl_inb x6L13 4) (
  jl_chk (jl_inb x6L13 (jx_len a1)) (
  jl_lt (x3L13 + ((ML13 2 x6L13.toNatClampNeg) * (ML13 a1 x6L13.toNatClampNeg))) (fun (x3_14 : Int32) =>
  if x2L13 = 0 then (
  jl_chk (jl_inb x6L13 (jx_len a1)) (
  jl_lt (ML13 a1 x6L13.toNatClampNeg) (fun (x4_17 : Int32) =>
  jl_chk (jl_inb x6L13 (jx_len a1)) (
  jl_lt (if x5L13 < (ML13 a1 x6L13.toNatClampNeg) then (ML13 a1 x6L13.toNatClampNeg) else x5L13) (fun (x5_19 : Int32) =>
  jl_lt (1 : Int32) (fun (x2_20 : Int32) =>
  jl_lt (x6L13 + 1) (fun (x6_21 : Int32) =>
  some (.inl (x2_20, x3_14, x4_17, x5_19, x6_21, ML13))))))))) else (
  jl_chk (jl_inb x6L13 (jx_len a1)) (
  jl_lt (if (ML13 a1 x6L13.toNatClampNeg) < x4L13 then (ML13 a1 x6L13.toNatClampNeg) else x4L13) (fun (x4_23 : Int32) =>
  jl_chk (jl_inb x6L13 (jx_len a1)) (
  jl_lt (if x5L13 < (ML13 a1 x6L13.toNatClampNeg) then (ML13 a1 x6L13.toNatClampNeg) else x5L13) (fun (x5_25 : Int32) =>
  jl_lt (1 : Int32) (fun (x2_26 : Int32) =>
  jl_lt (x6L13 + 1) (fun (x6_27 : Int32) =>
  some (.inl (x2_26, x3_14, x4_23, x5_25, x6_27, ML13)))))))))))))))

noncomputable def jf_X0_combined (a1 : Nat) (M : jl_Mem) : Option (Int32 × jl_Mem) :=
  jl_lt (0 : Int32) (fun (x2_1 : Int32) =>
  jl_lt (0 : Int32) (fun (x3_2 : Int32) =>
  jl_lt (0 : Int32) (fun (x4_3 : Int32) =>
  jl_lt (0 : Int32) (fun (x5_4 : Int32) =>
  jl_lt (0 : Int32) (fun (x6_5 : Int32) =>
  jl_wh (fun q => jf_X0_combined_L13 a1 q.1 q.2.1 q.2.2.1 q.2.2.2.1 q.2.2.2.2.1 q.2.2.2.2.2) jl_F (x2_1, x3_2, x4_3, x5_4, x6_5, M))))))

noncomputable def jf_X0_totalOf_L2 (a1 : Int32) (x2L2 : Int32) (ML2 : jl_Mem) : Option ((Int32 × jl_Mem) ⊕ (Int32 × jl_Mem)) :=
  if (ML2 1 1) ≤ x2L2 then (
  jl_bnd (jf_X0_combined 21 ML2) (fun r_3 M_4 =>
  some (.inr (r_3, M_4)))) else (
  jl_chk (jl_inb x2L2 4) (
  jl_chk (jl_inb a1 20) (
  jl_chk (jl_inb x2L2 4) (
  jl_lt (jl_st ML2 21 x2L2.toNatClampNeg (ML2 (7 + x2L2.toNatClampNeg) a1.toNatClampNeg)) (fun (M_9 : jl_Mem) =>
  jl_lt (x2L2 + 1) (fun (x2_10 : Int32) =>
  some (.inl (x2_10, M_9))))))))

noncomputable def jf_X0_totalOf (a1 : Int32) (M : jl_Mem) : Option (Int32 × jl_Mem) :=
  jl_lt (0 : Int32) (fun (x2_1 : Int32) =>
  jl_wh (fun q => jf_X0_totalOf_L2 a1 q.1 q.2) jl_F (x2_1, M))

noncomputable def jf_X0_bestAt_L29 (a1 : Int32) (x2L29 : Int32) (ML29 : jl_Mem) : Option ((Int32 × jl_Mem) ⊕ ((Int32 × jl_Mem) ⊕ (Int32 × jl_Mem))) :=
  if (ML29 1 0) ≤ x2L29 then (
  some (.inr (.inr ((-1 : Int32), ML29)))) else (
  jl_bnd (jf_X0_rankOf x2L29 22 ML29) (fun r_5 M_6 =>
  if r_5 = a1 then (
  some (.inr (.inr (x2L29, M_6)))) else (
  jl_lt (x2L29 + 1) (fun (x2_9 : Int32) =>
  some (.inl (x2_9, M_6))))))

noncomputable def jf_X0_bestAt_L2 (a1 : Int32) (x2L2 : Int32) (ML2 : jl_Mem) : Option ((Int32 × jl_Mem) ⊕ (Int32 × jl_Mem)) :=
  if (ML2 1 0) ≤ x2L2 then (
  jl_lt (0 : Int32) (fun (x2_3 : Int32) =>
  jl_wh (fun q => jf_X0_bestAt_L29 a1 q.1 q.2) jl_F (x2_3, ML2))) else (
  jl_bnd (jf_X0_totalOf x2L2 ML2) (fun r_10 M_11 =>
  jl_chk (jl_inb x2L2 20) (
  jl_lt (jl_st M_11 22 x2L2.toNatClampNeg r_10) (fun (M_14 : jl_Mem) =>
  jl_lt (x2L2 + 1) (fun (x2_15 : Int32) =>
  some (.inl (x2_15, M_14)))))))

noncomputable def jf_X0_bestAt (a1 : Int32) (M : jl_Mem) : Option (Int32 × jl_Mem) :=
  jl_lt (0 : Int32) (fun (x2_1 : Int32) =>
  jl_wh (fun q => jf_X0_bestAt_L2 a1 q.1 q.2) jl_F (x2_1, M))

noncomputable def jf_X2_forget_L2 (ts : Nat) (x1L2 : Int32) (ML2 : jl_Mem) : Option ((Int32 × jl_Mem) ⊕ (Int32 × jl_Mem)) :=
  if (4 : Int32) ≤ x1L2 then (
  some (.inr (0, ML2))) else (
  jl_chk (jl_inb x1L2 4) (
  jl_lt (jl_st ML2 (ts + 1) x1L2.toNatClampNeg (0 : Int32)) (fun (M_4 : jl_Mem) =>
  jl_chk (jl_inb x1L2 4) (
  jl_lt (jl_st M_4 (ts + 2) x1L2.toNatClampNeg (0 : Int32)) (fun (M_6 : jl_Mem) =>
  jl_lt (x1L2 + 1) (fun (x1_7 : Int32) =>
  some (.inl (x1_7, M_6))))))))

noncomputable def jf_X2_forget (ts : Nat) (M : jl_Mem) : Option (Int32 × jl_Mem) :=
  jl_lt (0 : Int32) (fun (x1_1 : Int32) =>
  jl_wh (fun q => jf_X2_forget_L2 ts q.1 q.2) jl_F (x1_1, M))

noncomputable def jf_X2_isWhole (ts : Nat) (a1 : Int32) (M : jl_Mem) : Option (Int32 × jl_Mem) :=
  jl_chk (jl_inb a1 4) (
  jl_chk (jl_inb a1 4) (
  if (M (ts + 1) a1.toNatClampNeg) < (M 5 a1.toNatClampNeg) then (
  jl_chk (jl_isB (0 : Int32)) (some ((0 : Int32), M))) else (
  jl_chk (jl_isB (1 : Int32)) (some ((1 : Int32), M)))))

noncomputable def jf_X2_isAtSeenPlace (ts : Nat) (a1 : Int32) (a2 : Int32) (M : jl_Mem) : Option (Int32 × jl_Mem) :=
  jl_chk (jl_inb a1 4) (
  jl_chk (jl_inb a2 20) (
  if (M (7 + a1.toNatClampNeg) a2.toNatClampNeg) = 0 then (
  jl_chk (jl_isB (0 : Int32)) (some ((0 : Int32), M))) else (
  jl_chk (jl_inb a1 4) (
  jl_chk (jl_inb a2 20) (
  jl_chk (jl_inb a1 4) (
  if (M (ts + 1) a1.toNatClampNeg) ≤ (M (17 + a1.toNatClampNeg) a2.toNatClampNeg) then (
  jl_chk (jl_isB (0 : Int32)) (some ((0 : Int32), M))) else (
  jl_chk (jl_isB (1 : Int32)) (some ((1 : Int32), M)))))))))

noncomputable def jf_X2_isKnown (ts : Nat) (a1 : Int32) (a2 : Int32) (M : jl_Mem) : Option (Int32 × jl_Mem) :=
  jl_bnd (jf_X2_isWhole ts a1 M) (fun r_1 M_2 =>
  if r_1 = 0 then (
  jl_bnd (jf_X2_isAtSeenPlace ts a1 a2 M_2) (fun r_6 M_7 =>
  if r_6 = 0 then (
  jl_chk (jl_inb a1 4) (
  if (((M_7 (ts + 2) a1.toNatClampNeg) >>> (a2 &&& 31)) &&& (1 : Int32)) = (1 : Int32) then (
  jl_chk (jl_isB (1 : Int32)) (some ((1 : Int32), M_7))) else (
  jl_chk (jl_isB (0 : Int32)) (some ((0 : Int32), M_7))))) else (
  jl_chk (jl_isB (1 : Int32)) (some ((1 : Int32), M_7))))) else (
  jl_chk (jl_isB (1 : Int32)) (some ((1 : Int32), M_2))))

noncomputable def jf_X2_lowOf_L2 (ts : Nat) (a1 : Int32) (x2L2 : Int32) (ML2 : jl_Mem) : Option ((Int32 × jl_Mem) ⊕ (Int32 × jl_Mem)) :=
  if (ML2 1 1) ≤ x2L2 then (
  jl_bnd (jf_X0_combined (ts + 3) ML2) (fun r_3 M_4 =>
  some (.inr (r_3, M_4)))) else (
  jl_bnd (jf_X2_isKnown ts x2L2 a1 ML2) (fun r_6 M_7 =>
  if r_6 = 0 then (
  jl_chk (jl_inb x2L2 4) (
  jl_lt (jl_st M_7 (ts + 3) x2L2.toNatClampNeg (0 : Int32)) (fun (M_11 : jl_Mem) =>
  jl_lt (x2L2 + 1) (fun (x2_12 : Int32) =>
  some (.inl (x2_12, M_11)))))) else (
  jl_chk (jl_inb x2L2 4) (
  jl_chk (jl_inb a1 20) (
  jl_chk (jl_inb x2L2 4) (
  jl_lt (jl_st M_7 (ts + 3) x2L2.toNatClampNeg (M_7 (7 + x2L2.toNatClampNeg) a1.toNatClampNeg)) (fun (M_16 : jl_Mem) =>
  jl_lt (x2L2 + 1) (fun (x2_17 : Int32) =>
  some (.inl (x2_17, M_16))))))))))

noncomputable def jf_X2_lowOf (ts : Nat) (a1 : Int32) (M : jl_Mem) : Option (Int32 × jl_Mem) :=
  jl_lt (0 : Int32) (fun (x2_1 : Int32) =>
  jl_wh (fun q => jf_X2_lowOf_L2 ts a1 q.1 q.2) jl_F (x2_1, M))

noncomputable def jf_X2_isFound (ts : Nat) (a1 : Int32) (M : jl_Mem) : Option (Int32 × jl_Mem) :=
  if (((M ts 5) >>> (a1 &&& 31)) &&& (1 : Int32)) = (1 : Int32) then (
  jl_chk (jl_isB (1 : Int32)) (some ((1 : Int32), M))) else (
  jl_chk (jl_isB (0 : Int32)) (some ((0 : Int32), M)))

noncomputable def jf_X2_firstLeftByLow_L4 (ts : Nat) (x1L4 : Int32) (x2L4 : Int32) (ML4 : jl_Mem) : Option ((Int32 × Int32 × jl_Mem) ⊕ (Int32 × jl_Mem)) :=
  if (ML4 1 0) ≤ x2L4 then (
  some (.inr (x1L4, ML4))) else (
  jl_bnd (jf_X2_isFound ts x2L4 ML4) (fun r_4 M_5 =>
  if r_4 = 0 then (
  if x1L4 = (-1 : Int32) then (
  jl_lt x2L4 (fun (x1_10 : Int32) =>
  jl_lt (x2L4 + 1) (fun (x2_11 : Int32) =>
  some (.inl (x1_10, x2_11, M_5))))) else (
  jl_chk (jl_inb x2L4 20) (
  jl_chk (jl_inb x1L4 20) (
  if (M_5 (ts + 4) x2L4.toNatClampNeg) ≤ (M_5 (ts + 4) x1L4.toNatClampNeg) then (
  jl_lt (x2L4 + 1) (fun (x2_15 : Int32) =>
  some (.inl (x1L4, x2_15, M_5)))) else (
  jl_lt x2L4 (fun (x1_16 : Int32) =>
  jl_lt (x2L4 + 1) (fun (x2_17 : Int32) =>
  some (.inl (x1_16, x2_17, M_5))))))))) else (
  jl_lt (x2L4 + 1) (fun (x2_8 : Int32) =>
  some (.inl (x1L4, x2_8, M_5))))))

noncomputable def jf_X2_firstLeftByLow (ts : Nat) (M : jl_Mem) : Option (Int32 × jl_Mem) :=
  jl_lt (-1 : Int32) (fun (x1_1 : Int32) =>
  jl_lt (0 : Int32) (fun (x2_2 : Int32) =>
  jl_wh (fun q => jf_X2_firstLeftByLow_L4 ts q.1 q.2.1 q.2.2) jl_F (x1_1, x2_2, M)))

noncomputable def jf_X2_chooseByLow_L9 (ts : Nat) (a1 : Int32) (x2L9 : Int32) (x3L9 : Int32) (ML9 : jl_Mem) : Option ((Int32 × Int32 × jl_Mem) ⊕ (Int32 × jl_Mem)) :=
  if (if (ML9 1 0) < a1 then (ML9 1 0) else a1) ≤ x3L9 then (
  some (.inr (x2L9, ML9))) else (
  jl_bnd (jf_X2_firstLeftByLow ts ML9) (fun r_5 M_6 =>
  jl_lt r_5 (fun (x2_8 : Int32) =>
  jl_lt (jl_st M_6 ts 5 ((M_6 ts 5) ||| ((1 : Int32) <<< (x2_8 &&& 31)))) (fun (M_9 : jl_Mem) =>
  jl_lt (x3L9 + 1) (fun (x3_10 : Int32) =>
  some (.inl (x2_8, x3_10, M_9)))))))

noncomputable def jf_X2_chooseByLow (ts : Nat) (a1 : Int32) (M : jl_Mem) : Option (Int32 × jl_Mem) :=
  jl_lt (jl_st M ts 5 (0 : Int32)) (fun (M_1 : jl_Mem) =>
  jl_lt (-1 : Int32) (fun (x2_2 : Int32) =>
  jl_lt (0 : Int32) (fun (x3_3 : Int32) =>
  jl_wh (fun q => jf_X2_chooseByLow_L9 ts a1 q.1 q.2.1 q.2.2) jl_F (x2_2, x3_3, M_1))))

noncomputable def jf_X2_topOf (ts : Nat) (a1 : Int32) (M : jl_Mem) : Option (Int32 × jl_Mem) :=
  jl_bnd (jf_X2_isWhole ts a1 M) (fun r_1 M_2 =>
  if r_1 = 0 then (
  jl_chk (jl_inb a1 4) (
  jl_lt (M_2 (ts + 1) a1.toNatClampNeg) (fun (x2_6 : Int32) =>
  if x2_6 = 0 then (
  some ((1000 : Int32), M_2)) else (
  jl_chk (jl_inb a1 4) (
  jl_chk (jl_inb a1 4) (
  jl_chk (jl_inb (x2_6 - (1 : Int32)) 20) (
  jl_chk (jl_inb (M_2 (12 + a1.toNatClampNeg) (x2_6 - (1 : Int32)).toNatClampNeg) 20) (
  some ((M_2 (7 + a1.toNatClampNeg) (M_2 (12 + a1.toNatClampNeg) (x2_6 - (1 : Int32)).toNatClampNeg).toNatClampNeg), M_2))))))))) else (
  some ((0 : Int32), M_2)))

noncomputable def jf_X2_highOf_L2 (ts : Nat) (a1 : Int32) (x2L2 : Int32) (ML2 : jl_Mem) : Option ((Int32 × jl_Mem) ⊕ (Int32 × jl_Mem)) :=
  if (ML2 1 1) ≤ x2L2 then (
  jl_bnd (jf_X0_combined (ts + 3) ML2) (fun r_3 M_4 =>
  some (.inr (r_3, M_4)))) else (
  jl_bnd (jf_X2_isKnown ts x2L2 a1 ML2) (fun r_6 M_7 =>
  if r_6 = 0 then (
  jl_bnd (jf_X2_topOf ts x2L2 M_7) (fun r_10 M_11 =>
  jl_chk (jl_inb x2L2 4) (
  jl_lt (jl_st M_11 (ts + 3) x2L2.toNatClampNeg r_10) (fun (M_14 : jl_Mem) =>
  jl_lt (x2L2 + 1) (fun (x2_15 : Int32) =>
  some (.inl (x2_15, M_14))))))) else (
  jl_chk (jl_inb x2L2 4) (
  jl_chk (jl_inb a1 20) (
  jl_chk (jl_inb x2L2 4) (
  jl_lt (jl_st M_7 (ts + 3) x2L2.toNatClampNeg (M_7 (7 + x2L2.toNatClampNeg) a1.toNatClampNeg)) (fun (M_19 : jl_Mem) =>
  jl_lt (x2L2 + 1) (fun (x2_20 : Int32) =>
  some (.inl (x2_20, M_19))))))))))

noncomputable def jf_X2_highOf (ts : Nat) (a1 : Int32) (M : jl_Mem) : Option (Int32 × jl_Mem) :=
  jl_lt (0 : Int32) (fun (x2_1 : Int32) =>
  jl_wh (fun q => jf_X2_highOf_L2 ts a1 q.1 q.2) jl_F (x2_1, M))

noncomputable def jf_X2_isSure_L45 (ts : Nat) (x2_6 : Int32) (x3L45 : Int32) (ML45 : jl_Mem) : Option ((Int32 × jl_Mem) ⊕ ((Int32 × jl_Mem) ⊕ (Int32 × jl_Mem))) :=
  if (ML45 1 0) ≤ x3L45 then (
  jl_chk (jl_isB (1 : Int32)) (some (.inr (.inr ((1 : Int32), ML45))))) else (
  jl_bnd (jf_X2_isFound ts x3L45 ML45) (fun r_11 M_12 =>
  if r_11 = 0 then (
  jl_chk (jl_inb x2_6 20) (
  jl_bnd (jf_X2_highOf ts x3L45 M_12) (fun r_17 M_18 =>
  jl_bnd (jf_X4_comesFirst x2_6 (M_12 (ts + 4) x2_6.toNatClampNeg) x3L45 r_17 M_18) (fun r_20 M_21 =>
  if r_20 = 0 then (
  jl_chk (jl_isB (0 : Int32)) (some (.inr (.inr ((0 : Int32), M_21))))) else (
  jl_lt (x3L45 + 1) (fun (x3_24 : Int32) =>
  some (.inl (x3_24, M_21)))))))) else (
  jl_lt (x3L45 + 1) (fun (x3_15 : Int32) =>
  some (.inl (x3_15, M_12))))))

noncomputable def jf_X2_isSure_L2 (ts : Nat) (a1 : Int32) (x2L2 : Int32) (ML2 : jl_Mem) : Option ((Int32 × jl_Mem) ⊕ (Int32 × jl_Mem)) :=
  if (ML2 1 0) ≤ x2L2 then (
  jl_bnd (jf_X2_chooseByLow ts a1 ML2) (fun r_3 M_4 =>
  jl_lt r_3 (fun (x2_6 : Int32) =>
  if x2_6 = (-1 : Int32) then (
  jl_chk (jl_isB (0 : Int32)) (some (.inr ((0 : Int32), M_4)))) else (
  jl_lt (0 : Int32) (fun (x3_8 : Int32) =>
  jl_wh (fun q => jf_X2_isSure_L45 ts x2_6 q.1 q.2) jl_F (x3_8, M_4)))))) else (
  jl_bnd (jf_X2_lowOf ts x2L2 ML2) (fun r_27 M_28 =>
  jl_chk (jl_inb x2L2 20) (
  jl_lt (jl_st M_28 (ts + 4) x2L2.toNatClampNeg r_27) (fun (M_31 : jl_Mem) =>
  jl_lt (x2L2 + 1) (fun (x2_32 : Int32) =>
  some (.inl (x2_32, M_31)))))))

noncomputable def jf_X2_isSure (ts : Nat) (a1 : Int32) (M : jl_Mem) : Option (Int32 × jl_Mem) :=
  jl_lt (0 : Int32) (fun (x2_1 : Int32) =>
  jl_wh (fun q => jf_X2_isSure_L2 ts a1 q.1 q.2) jl_F (x2_1, M))

noncomputable def jf_X1_start (a1 : Int32) (a2 : Int32) (a3 : Int32) (M : jl_Mem) : Option (Int32 × jl_Mem) :=
  jl_chk (jl_isB (1 : Int32)) (
  jl_lt (jl_st M 23 2 (1 : Int32)) (fun (M_1 : jl_Mem) =>
  jl_lt (jl_st M_1 23 4 a1) (fun (M_2 : jl_Mem) =>
  jl_lt (jl_st M_2 23 5 a2) (fun (M_3 : jl_Mem) =>
  jl_lt (jl_st M_3 23 6 a3) (fun (M_4 : jl_Mem) =>
  jl_lt (jl_st M_4 23 7 (0 : Int32)) (fun (M_5 : jl_Mem) =>
  jl_lt (jl_st M_5 23 8 (0 : Int32)) (fun (M_6 : jl_Mem) =>
  jl_lt (jl_st M_6 23 9 (0 : Int32)) (fun (M_7 : jl_Mem) =>
  jl_bnd (jf_X2_forget 24 M_7) (fun r_8 M_9 =>
  jl_bnd (jf_X2_isSure 24 a2 M_9) (fun r_11 M_12 =>
  jl_chk (jl_isB r_11) (
  jl_lt (jl_st M_12 23 3 r_11) (fun (M_14 : jl_Mem) =>
  some (0, M_14)))))))))))))

noncomputable def jf_X1_seeNextPlace (a1 : Int32) (M : jl_Mem) : Option (Int32 × jl_Mem) :=
  jl_chk (jl_inb a1 4) (
  jl_chk (jl_inb a1 4) (
  jl_chk (jl_inb (M 25 a1.toNatClampNeg) 20) (
  jl_lt (M (12 + a1.toNatClampNeg) (M 25 a1.toNatClampNeg).toNatClampNeg) (fun (x2_4 : Int32) =>
  jl_chk (jl_inb a1 4) (
  jl_chk (jl_inb a1 4) (
  jl_lt (jl_st M 25 a1.toNatClampNeg ((M 25 a1.toNatClampNeg) + (1 : Int32))) (fun (M_7 : jl_Mem) =>
  jl_chk (jl_inb a1 4) (
  jl_lt (jl_st M_7 23 9 ((M_7 23 9) + (M_7 3 a1.toNatClampNeg))) (fun (M_9 : jl_Mem) =>
  jl_bnd (jf_X2_isSure 24 (M_9 23 5) M_9) (fun r_10 M_11 =>
  jl_chk (jl_isB r_10) (
  jl_lt (jl_st M_11 23 3 r_10) (fun (M_13 : jl_Mem) =>
  some (x2_4, M_13)))))))))))))

noncomputable def jf_X2_mayBeLookedUp (ts : Nat) (a1 : Int32) (a2 : Int32) (M : jl_Mem) : Option (Int32 × jl_Mem) :=
  jl_chk (jl_inb a1 4) (
  if (M 4 a1.toNatClampNeg) ≤ 0 then (
  jl_chk (jl_isB (0 : Int32)) (some ((0 : Int32), M))) else (
  jl_bnd (jf_X2_isKnown ts a1 a2 M) (fun r_4 M_5 =>
  if r_4 = 0 then (
  jl_chk (jl_isB (1 : Int32)) (some ((1 : Int32), M_5))) else (
  jl_chk (jl_isB (0 : Int32)) (some ((0 : Int32), M_5))))))

noncomputable def jf_X2_noteLookUp (ts : Nat) (a1 : Int32) (a2 : Int32) (M : jl_Mem) : Option (Int32 × jl_Mem) :=
  jl_chk (jl_inb a1 4) (
  jl_chk (jl_inb a1 4) (
  jl_lt (jl_st M (ts + 2) a1.toNatClampNeg ((M (ts + 2) a1.toNatClampNeg) ||| ((1 : Int32) <<< (a2 &&& 31)))) (fun (M_3 : jl_Mem) =>
  some (0, M_3))))

noncomputable def jf_X1_lookUpEverywhere_L2 (a1 : Int32) (x2L2 : Int32) (ML2 : jl_Mem) : Option ((Int32 × jl_Mem) ⊕ (Int32 × jl_Mem)) :=
  if (ML2 1 1) ≤ x2L2 then (
  some (.inr (0, ML2))) else (
  if (ML2 23 3) = 0 then (
  jl_bnd (jf_X2_mayBeLookedUp 24 x2L2 a1 ML2) (fun r_4 M_5 =>
  if r_4 = 0 then (
  jl_lt (x2L2 + 1) (fun (x2_8 : Int32) =>
  some (.inl (x2_8, M_5)))) else (
  jl_bnd (jf_X2_noteLookUp 24 x2L2 a1 M_5) (fun r_9 M_10 =>
  jl_lt (jl_st M_10 23 8 ((M_10 23 8) + (1 : Int32))) (fun (M_12 : jl_Mem) =>
  jl_chk (jl_inb x2L2 4) (
  jl_lt (jl_st M_12 23 9 ((M_12 23 9) + (M_12 4 x2L2.toNatClampNeg))) (fun (M_14 : jl_Mem) =>
  jl_bnd (jf_X2_isSure 24 (M_14 23 5) M_14) (fun r_15 M_16 =>
  jl_chk (jl_isB r_15) (
  jl_lt (jl_st M_16 23 3 r_15) (fun (M_18 : jl_Mem) =>
  jl_lt (x2L2 + 1) (fun (x2_19 : Int32) =>
  some (.inl (x2_19, M_18))))))))))))) else (
  some (.inr (0, ML2))))

noncomputable def jf_X1_lookUpEverywhere (a1 : Int32) (M : jl_Mem) : Option (Int32 × jl_Mem) :=
  jl_lt (0 : Int32) (fun (x2_1 : Int32) =>
  jl_wh (fun q => jf_X1_lookUpEverywhere_L2 a1 q.1 q.2) jl_F (x2_1, M))

noncomputable def jf_X2_isSeen_L2 (ts : Nat) (a1 : Int32) (x2L2 : Int32) (ML2 : jl_Mem) : Option ((Int32 × jl_Mem) ⊕ (Int32 × jl_Mem)) :=
  if (ML2 1 1) ≤ x2L2 then (
  jl_chk (jl_isB (0 : Int32)) (some (.inr ((0 : Int32), ML2)))) else (
  jl_bnd (jf_X2_isAtSeenPlace ts x2L2 a1 ML2) (fun r_4 M_5 =>
  if r_4 = 0 then (
  jl_lt (x2L2 + 1) (fun (x2_8 : Int32) =>
  some (.inl (x2_8, M_5)))) else (
  jl_chk (jl_isB (1 : Int32)) (some (.inr ((1 : Int32), M_5))))))

noncomputable def jf_X2_isSeen (ts : Nat) (a1 : Int32) (M : jl_Mem) : Option (Int32 × jl_Mem) :=
  jl_lt (0 : Int32) (fun (x2_1 : Int32) =>
  jl_wh (fun q => jf_X2_isSeen_L2 ts a1 q.1 q.2) jl_F (x2_1, M))

noncomputable def jf_X1_hasLookUpsLeft_L2 (a1 : Int32) (x2L2 : Int32) (ML2 : jl_Mem) : Option ((Int32 × jl_Mem) ⊕ (Int32 × jl_Mem)) :=
  if (ML2 1 1) ≤ x2L2 then (
  jl_chk (jl_isB (0 : Int32)) (some (.inr ((0 : Int32), ML2)))) else (
  jl_bnd (jf_X2_mayBeLookedUp 24 x2L2 a1 ML2) (fun r_4 M_5 =>
  if r_4 = 0 then (
  jl_lt (x2L2 + 1) (fun (x2_8 : Int32) =>
  some (.inl (x2_8, M_5)))) else (
  jl_chk (jl_isB (1 : Int32)) (some (.inr ((1 : Int32), M_5))))))

noncomputable def jf_X1_hasLookUpsLeft (a1 : Int32) (M : jl_Mem) : Option (Int32 × jl_Mem) :=
  jl_lt (0 : Int32) (fun (x2_1 : Int32) =>
  jl_wh (fun q => jf_X1_hasLookUpsLeft_L2 a1 q.1 q.2) jl_F (x2_1, M))

noncomputable def jf_X1_mostPromising_L6 (x1L6 : Int32) (x2L6 : Int32) (x3L6 : Int32) (ML6 : jl_Mem) : Option ((Int32 × Int32 × Int32 × jl_Mem) ⊕ (Int32 × jl_Mem)) :=
  if (ML6 1 0) ≤ x3L6 then (
  some (.inr (x1L6, ML6))) else (
  jl_bnd (jf_X2_isSeen 24 x3L6 ML6) (fun r_5 M_6 =>
  if r_5 = 0 then (
  jl_lt (x3L6 + 1) (fun (x3_9 : Int32) =>
  some (.inl (x1L6, x2L6, x3_9, M_6)))) else (
  jl_bnd (jf_X1_hasLookUpsLeft x3L6 M_6) (fun r_10 M_11 =>
  if r_10 = 0 then (
  jl_lt (x3L6 + 1) (fun (x3_14 : Int32) =>
  some (.inl (x1L6, x2L6, x3_14, M_11)))) else (
  jl_bnd (jf_X2_highOf 24 x3L6 M_11) (fun r_15 M_16 =>
  jl_lt r_15 (fun (x4_18 : Int32) =>
  if x1L6 = (-1 : Int32) then (
  jl_lt x3L6 (fun (x1_20 : Int32) =>
  jl_lt x4_18 (fun (x2_21 : Int32) =>
  jl_lt (x3L6 + 1) (fun (x3_22 : Int32) =>
  some (.inl (x1_20, x2_21, x3_22, M_16)))))) else (
  if x4_18 ≤ x2L6 then (
  jl_lt (x3L6 + 1) (fun (x3_24 : Int32) =>
  some (.inl (x1L6, x2L6, x3_24, M_16)))) else (
  jl_lt x3L6 (fun (x1_25 : Int32) =>
  jl_lt x4_18 (fun (x2_26 : Int32) =>
  jl_lt (x3L6 + 1) (fun (x3_27 : Int32) =>
  some (.inl (x1_25, x2_26, x3_27, M_16))))))))))))))

noncomputable def jf_X1_mostPromising (M : jl_Mem) : Option (Int32 × jl_Mem) :=
  jl_lt (-1 : Int32) (fun (x1_1 : Int32) =>
  jl_lt (0 : Int32) (fun (x2_2 : Int32) =>
  jl_lt (0 : Int32) (fun (x3_3 : Int32) =>
  jl_wh (fun q => jf_X1_mostPromising_L6 q.1 q.2.1 q.2.2.1 q.2.2.2) jl_F (x1_1, x2_2, x3_3, M))))

noncomputable def jf_X1_workRound_L12 (x1L12 : Int32) (ML12 : jl_Mem) : Option ((Int32 × jl_Mem) ⊕ (Int32 × jl_Mem)) :=
  if (ML12 1 1) ≤ x1L12 then (
  if (ML12 23 4) = (2 : Int32) then (
  if (ML12 23 3) = 0 then (
  if (ML12 23 6) ≤ 0 then (
  some (.inr (0, ML12))) else (
  jl_chk (jl_nz (ML12 23 6)) (
  if ((ML12 23 7) - (ML12 23 7) / (ML12 23 6) * (ML12 23 6)) = 0 then (
  jl_bnd (jf_X1_mostPromising ML12) (fun r_8 M_9 =>
  jl_lt r_8 (fun (x1_11 : Int32) =>
  if x1_11 = (-1 : Int32) then (
  some (.inr (0, M_9))) else (
  jl_bnd (jf_X1_lookUpEverywhere x1_11 M_9) (fun r_13 M_14 =>
  some (.inr (0, M_14))))))) else (
  some (.inr (0, ML12)))))) else (
  some (.inr (0, ML12)))) else (
  some (.inr (0, ML12)))) else (
  if (ML12 23 3) = 0 then (
  jl_bnd (jf_X2_isWhole 24 x1L12 ML12) (fun r_31 M_32 =>
  if r_31 = 0 then (
  jl_bnd (jf_X1_seeNextPlace x1L12 M_32) (fun r_36 M_37 =>
  jl_lt r_36 (fun (x2_39 : Int32) =>
  if (M_37 23 4) = (1 : Int32) then (
  jl_bnd (jf_X1_lookUpEverywhere x2_39 M_37) (fun r_42 M_43 =>
  jl_lt (x1L12 + 1) (fun (x1_45 : Int32) =>
  some (.inl (x1_45, M_43))))) else (
  jl_lt (x1L12 + 1) (fun (x1_41 : Int32) =>
  some (.inl (x1_41, M_37))))))) else (
  jl_lt (x1L12 + 1) (fun (x1_35 : Int32) =>
  some (.inl (x1_35, M_32)))))) else (
  if (ML12 23 4) = (2 : Int32) then (
  if (ML12 23 3) = 0 then (
  if (ML12 23 6) ≤ 0 then (
  some (.inr (0, ML12))) else (
  jl_chk (jl_nz (ML12 23 6)) (
  if ((ML12 23 7) - (ML12 23 7) / (ML12 23 6) * (ML12 23 6)) = 0 then (
  jl_bnd (jf_X1_mostPromising ML12) (fun r_22 M_23 =>
  jl_lt r_22 (fun (x1_25 : Int32) =>
  if x1_25 = (-1 : Int32) then (
  some (.inr (0, M_23))) else (
  jl_bnd (jf_X1_lookUpEverywhere x1_25 M_23) (fun r_27 M_28 =>
  some (.inr (0, M_28))))))) else (
  some (.inr (0, ML12)))))) else (
  some (.inr (0, ML12)))) else (
  some (.inr (0, ML12)))))

noncomputable def jf_X1_workRound (M : jl_Mem) : Option (Int32 × jl_Mem) :=
  jl_lt (jl_st M 23 7 ((M 23 7) + (1 : Int32))) (fun (M_1 : jl_Mem) =>
  jl_lt (0 : Int32) (fun (x1_2 : Int32) =>
  jl_wh (fun q => jf_X1_workRound_L12 q.1 q.2) jl_F (x1_2, M_1)))

noncomputable def jf_X2_placesSeen_L4 (ts : Nat) (x1L4 : Int32) (x2L4 : Int32) (ML4 : jl_Mem) : Option ((Int32 × Int32 × jl_Mem) ⊕ (Int32 × jl_Mem)) :=
  if (ML4 1 1) ≤ x2L4 then (
  some (.inr (x1L4, ML4))) else (
  jl_chk (jl_inb x2L4 4) (
  jl_lt (x1L4 + (ML4 (ts + 1) x2L4.toNatClampNeg)) (fun (x1_5 : Int32) =>
  jl_lt (x2L4 + 1) (fun (x2_6 : Int32) =>
  some (.inl (x1_5, x2_6, ML4))))))

noncomputable def jf_X2_placesSeen (ts : Nat) (M : jl_Mem) : Option (Int32 × jl_Mem) :=
  jl_lt (0 : Int32) (fun (x1_1 : Int32) =>
  jl_lt (0 : Int32) (fun (x2_2 : Int32) =>
  jl_wh (fun q => jf_X2_placesSeen_L4 ts q.1 q.2.1 q.2.2) jl_F (x1_1, x2_2, M)))

noncomputable def jf_X2_thingsSeen_L4 (ts : Nat) (x1L4 : Int32) (x2L4 : Int32) (ML4 : jl_Mem) : Option ((Int32 × Int32 × jl_Mem) ⊕ (Int32 × jl_Mem)) :=
  if (ML4 1 0) ≤ x2L4 then (
  some (.inr (x1L4, ML4))) else (
  jl_bnd (jf_X2_isSeen ts x2L4 ML4) (fun r_4 M_5 =>
  jl_bnd (jf_X4_yes r_4 M_5) (fun r_7 M_8 =>
  jl_lt (x1L4 + r_7) (fun (x1_10 : Int32) =>
  jl_lt (x2L4 + 1) (fun (x2_11 : Int32) =>
  some (.inl (x1_10, x2_11, M_8)))))))

noncomputable def jf_X2_thingsSeen (ts : Nat) (M : jl_Mem) : Option (Int32 × jl_Mem) :=
  jl_lt (0 : Int32) (fun (x1_1 : Int32) =>
  jl_lt (0 : Int32) (fun (x2_2 : Int32) =>
  jl_wh (fun q => jf_X2_thingsSeen_L4 ts q.1 q.2.1 q.2.2) jl_F (x1_1, x2_2, M)))

noncomputable def jf_X2_foundAt_L4 (ts : Nat) (a1 : Int32) (x2L4 : Int32) (x3L4 : Int32) (ML4 : jl_Mem) : Option ((Int32 × Int32 × jl_Mem) ⊕ (Int32 × jl_Mem)) :=
  if (ML4 1 0) ≤ x3L4 then (
  some (.inr ((-1 : Int32), ML4))) else (
  jl_bnd (jf_X2_isFound ts x3L4 ML4) (fun r_4 M_5 =>
  if r_4 = 0 then (
  jl_lt (x3L4 + 1) (fun (x3_8 : Int32) =>
  some (.inl (x2L4, x3_8, M_5)))) else (
  if x2L4 = a1 then (
  some (.inr (x3L4, M_5))) else (
  jl_lt (x2L4 + 1) (fun (x2_10 : Int32) =>
  jl_lt (x3L4 + 1) (fun (x3_11 : Int32) =>
  some (.inl (x2_10, x3_11, M_5))))))))

noncomputable def jf_X2_foundAt (ts : Nat) (a1 : Int32) (M : jl_Mem) : Option (Int32 × jl_Mem) :=
  jl_lt (0 : Int32) (fun (x2_1 : Int32) =>
  jl_lt (0 : Int32) (fun (x3_2 : Int32) =>
  jl_wh (fun q => jf_X2_foundAt_L4 ts a1 q.1 q.2.1 q.2.2) jl_F (x2_1, x3_2, M)))

noncomputable def jf_X3_isEnough (a1 : Int32) (a2 : Int32) (a3 : Int32) (a4 : Int32) (a5 : Int32) (M : jl_Mem) : Option (Int32 × jl_Mem) :=
  jl_chk (jl_inb (0 : Int32) 4) (
  jl_lt (jl_st M 31 (0 : Int32).toNatClampNeg a2) (fun (M_2 : jl_Mem) =>
  jl_chk (jl_inb (1 : Int32) 4) (
  jl_lt (jl_st M_2 31 (1 : Int32).toNatClampNeg a3) (fun (M_4 : jl_Mem) =>
  jl_chk (jl_inb (2 : Int32) 4) (
  jl_lt (jl_st M_4 31 (2 : Int32).toNatClampNeg a4) (fun (M_6 : jl_Mem) =>
  jl_chk (jl_inb (3 : Int32) 4) (
  jl_lt (jl_st M_6 31 (3 : Int32).toNatClampNeg a5) (fun (M_8 : jl_Mem) =>
  jl_bnd (jf_X2_isSure 30 a1 M_8) (fun r_9 M_10 =>
  jl_chk (jl_isB r_9) (some (r_9, M_10)))))))))))

noncomputable def jf_X3_costOfDepths_L4 (x1L4 : Int32) (x2L4 : Int32) (ML4 : jl_Mem) : Option ((Int32 × Int32 × jl_Mem) ⊕ (Int32 × jl_Mem)) :=
  if (ML4 1 1) ≤ x2L4 then (
  some (.inr (x1L4, ML4))) else (
  jl_chk (jl_inb x2L4 4) (
  jl_chk (jl_inb x2L4 4) (
  jl_lt (x1L4 + ((ML4 3 x2L4.toNatClampNeg) * (ML4 31 x2L4.toNatClampNeg))) (fun (x1_6 : Int32) =>
  jl_lt (x2L4 + 1) (fun (x2_7 : Int32) =>
  some (.inl (x1_6, x2_7, ML4)))))))

noncomputable def jf_X3_costOfDepths (M : jl_Mem) : Option (Int32 × jl_Mem) :=
  jl_lt (0 : Int32) (fun (x1_1 : Int32) =>
  jl_lt (0 : Int32) (fun (x2_2 : Int32) =>
  jl_wh (fun q => jf_X3_costOfDepths_L4 q.1 q.2.1 q.2.2) jl_F (x1_1, x2_2, M)))

noncomputable def jf_X3_goToNextDepths_L10 (x1L10 : Int32) (ML10 : jl_Mem) : Option ((Int32 × jl_Mem) ⊕ (Int32 × jl_Mem)) :=
  if x1L10 < 0 then (
  some (.inr (0, ML10))) else (
  jl_bnd (jf_X2_isWhole 30 x1L10 ML10) (fun r_3 M_4 =>
  if r_3 = 0 then (
  jl_chk (jl_inb x1L10 4) (
  jl_chk (jl_inb x1L10 4) (
  jl_lt (jl_st M_4 31 x1L10.toNatClampNeg ((M_4 31 x1L10.toNatClampNeg) + (1 : Int32))) (fun (M_12 : jl_Mem) =>
  some (.inr (0, M_12)))))) else (
  jl_chk (jl_inb x1L10 4) (
  jl_lt (jl_st M_4 31 x1L10.toNatClampNeg (0 : Int32)) (fun (M_8 : jl_Mem) =>
  jl_lt (x1L10 + (-1)) (fun (x1_9 : Int32) =>
  some (.inl (x1_9, M_8))))))))

noncomputable def jf_X3_goToNextDepths (M : jl_Mem) : Option (Int32 × jl_Mem) :=
  jl_lt ((M 1 1) - (1 : Int32)) (fun (x1_1 : Int32) =>
  jl_wh (fun q => jf_X3_goToNextDepths_L10 q.1 q.2) jl_F (x1_1, M))

noncomputable def jf_X3_cheapest_L20 (a1 : Int32) (x2_7 : Int32) (x3L20 : Int32) (x4L20 : Int32) (ML20 : jl_Mem) : Option ((Int32 × Int32 × jl_Mem) ⊕ (Int32 × jl_Mem)) :=
  if x2_7 ≤ x4L20 then (
  some (.inr (x3L20, ML20))) else (
  jl_bnd (jf_X3_costOfDepths ML20) (fun r_11 M_12 =>
  jl_lt r_11 (fun (x5_14 : Int32) =>
  if x3L20 = (-1 : Int32) then (
  jl_bnd (jf_X2_isSure 30 a1 M_12) (fun r_16 M_17 =>
  if r_16 = 0 then (
  jl_bnd (jf_X3_goToNextDepths M_17) (fun r_20 M_21 =>
  jl_lt (x4L20 + 1) (fun (x4_23 : Int32) =>
  some (.inl (x3L20, x4_23, M_21))))) else (
  jl_lt x5_14 (fun (x3_24 : Int32) =>
  jl_lt (jl_sa M_17 35 (va_cpy (M_17 31) (M_17 35) 0 0 4)) (fun (M_25 : jl_Mem) =>
  jl_bnd (jf_X3_goToNextDepths M_25) (fun r_26 M_27 =>
  jl_lt (x4L20 + 1) (fun (x4_29 : Int32) =>
  some (.inl (x3_24, x4_29, M_27))))))))) else (
  if x3L20 ≤ x5_14 then (
  jl_bnd (jf_X3_goToNextDepths M_12) (fun r_31 M_32 =>
  jl_lt (x4L20 + 1) (fun (x4_34 : Int32) =>
  some (.inl (x3L20, x4_34, M_32))))) else (
  jl_bnd (jf_X2_isSure 30 a1 M_12) (fun r_35 M_36 =>
  if r_35 = 0 then (
  jl_bnd (jf_X3_goToNextDepths M_36) (fun r_39 M_40 =>
  jl_lt (x4L20 + 1) (fun (x4_42 : Int32) =>
  some (.inl (x3L20, x4_42, M_40))))) else (
  jl_lt x5_14 (fun (x3_43 : Int32) =>
  jl_lt (jl_sa M_36 35 (va_cpy (M_36 31) (M_36 35) 0 0 4)) (fun (M_44 : jl_Mem) =>
  jl_bnd (jf_X3_goToNextDepths M_44) (fun r_45 M_46 =>
  jl_lt (x4L20 + 1) (fun (x4_48 : Int32) =>
  some (.inl (x3_43, x4_48, M_46)))))))))))))

noncomputable def jf_X3_cheapest (a1 : Int32) (M : jl_Mem) : Option (Int32 × jl_Mem) :=
  jl_bnd (jf_X2_forget 30 M) (fun r_1 M_2 =>
  jl_bnd (jf_X0_depthRows M_2) (fun r_4 M_5 =>
  jl_lt r_4 (fun (x2_7 : Int32) =>
  jl_lt (-1 : Int32) (fun (x3_8 : Int32) =>
  jl_lt (0 : Int32) (fun (x4_9 : Int32) =>
  jl_wh (fun q => jf_X3_cheapest_L20 a1 x2_7 q.1 q.2.1 q.2.2) jl_F (x3_8, x4_9, M_5))))))

noncomputable def jf_X4_thing (M : jl_Mem) : Option (Int32 × jl_Mem) :=
  if (M 1 0) < (20 : Int32) then (
  jl_chk (jl_isB (0 : Int32)) (
  jl_lt (jl_st M 23 2 (0 : Int32)) (fun (M_2 : jl_Mem) =>
  jl_lt (jl_st M_2 1 0 ((M_2 1 0) + (1 : Int32))) (fun (M_3 : jl_Mem) =>
  some (((M_3 1 0) - (1 : Int32)), M_3))))) else (
  some ((-4 : Int32), M))

noncomputable def jf_X4_list (a1 : Int32) (a2 : Int32) (a3 : Int32) (M : jl_Mem) : Option (Int32 × jl_Mem) :=
  jl_bnd (jf_X4_within a1 (0 : Int32) (10 : Int32) M) (fun r_1 M_2 =>
  if r_1 = 0 then (
  some ((-2 : Int32), M_2)) else (
  jl_bnd (jf_X4_within a2 (1 : Int32) (100 : Int32) M_2) (fun r_5 M_6 =>
  if r_5 = 0 then (
  some ((-2 : Int32), M_6)) else (
  jl_bnd (jf_X4_within a3 (0 : Int32) (100 : Int32) M_6) (fun r_9 M_10 =>
  if r_9 = 0 then (
  some ((-2 : Int32), M_10)) else (
  if (M_10 1 1) < (4 : Int32) then (
  jl_chk (jl_isB (0 : Int32)) (
  jl_lt (jl_st M_10 23 2 (0 : Int32)) (fun (M_14 : jl_Mem) =>
  jl_bnd (jf_X0_addList a1 a2 a3 M_14) (fun r_15 M_16 =>
  some (r_15, M_16))))) else (
  some ((-4 : Int32), M_10))))))))

noncomputable def jf_X4_changeMark (a1 : Int32) (a2 : Int32) (a3 : Int32) (M : jl_Mem) : Option (Int32 × jl_Mem) :=
  jl_chk (jl_inb a1 4) (
  jl_chk (jl_inb a2 20) (
  jl_lt (M (7 + a1.toNatClampNeg) a2.toNatClampNeg) (fun (x4_3 : Int32) =>
  if x4_3 = a3 then (
  some (x4_3, M)) else (
  jl_chk (jl_isB (0 : Int32)) (
  jl_lt (jl_st M 23 2 (0 : Int32)) (fun (M_5 : jl_Mem) =>
  jl_bnd (jf_X0_setMark a1 a2 a3 M_5) (fun r_6 M_7 =>
  some (x4_3, M_7))))))))

noncomputable def jf_X4_mark (a1 : Int32) (a2 : Int32) (a3 : Int32) (M : jl_Mem) : Option (Int32 × jl_Mem) :=
  jl_bnd (jf_X0_hasList a1 M) (fun r_1 M_2 =>
  if r_1 = 0 then (
  some ((-1 : Int32), M_2)) else (
  jl_bnd (jf_X0_hasThing a2 M_2) (fun r_5 M_6 =>
  if r_5 = 0 then (
  some ((-1 : Int32), M_6)) else (
  jl_bnd (jf_X4_within a3 (1 : Int32) (1000 : Int32) M_6) (fun r_9 M_10 =>
  if r_9 = 0 then (
  some ((-2 : Int32), M_10)) else (
  jl_bnd (jf_X4_changeMark a1 a2 a3 M_10) (fun r_13 M_14 =>
  some (r_13, M_14))))))))

noncomputable def jf_X4_unmark (a1 : Int32) (a2 : Int32) (M : jl_Mem) : Option (Int32 × jl_Mem) :=
  jl_bnd (jf_X0_hasList a1 M) (fun r_1 M_2 =>
  if r_1 = 0 then (
  some ((-1 : Int32), M_2)) else (
  jl_bnd (jf_X0_hasThing a2 M_2) (fun r_5 M_6 =>
  if r_5 = 0 then (
  some ((-1 : Int32), M_6)) else (
  jl_bnd (jf_X4_changeMark a1 a2 (0 : Int32) M_6) (fun r_9 M_10 =>
  some (r_9, M_10))))))

noncomputable def jf_X4_weigh (a1 : Int32) (a2 : Int32) (M : jl_Mem) : Option (Int32 × jl_Mem) :=
  jl_bnd (jf_X0_hasList a1 M) (fun r_1 M_2 =>
  if r_1 = 0 then (
  some ((-1 : Int32), M_2)) else (
  jl_bnd (jf_X4_within a2 (0 : Int32) (10 : Int32) M_2) (fun r_5 M_6 =>
  if r_5 = 0 then (
  some ((-2 : Int32), M_6)) else (
  jl_chk (jl_inb a1 4) (
  jl_lt (M_6 2 a1.toNatClampNeg) (fun (x3_10 : Int32) =>
  if x3_10 = a2 then (
  jl_chk (jl_inb a1 4) (
  jl_lt (jl_st M_6 2 a1.toNatClampNeg a2) (fun (M_13 : jl_Mem) =>
  some (x3_10, M_13)))) else (
  jl_chk (jl_isB (0 : Int32)) (
  jl_lt (jl_st M_6 23 2 (0 : Int32)) (fun (M_14 : jl_Mem) =>
  jl_chk (jl_inb a1 4) (
  jl_lt (jl_st M_14 2 a1.toNatClampNeg a2) (fun (M_16 : jl_Mem) =>
  some (x3_10, M_16))))))))))))

noncomputable def jf_X4_rule (a1 : Int32) (M : jl_Mem) : Option (Int32 × jl_Mem) :=
  jl_bnd (jf_X4_within a1 (0 : Int32) (2 : Int32) M) (fun r_1 M_2 =>
  if r_1 = 0 then (
  some ((-2 : Int32), M_2)) else (
  jl_lt (M_2 1 3) (fun (x2_5 : Int32) =>
  if x2_5 = a1 then (
  jl_lt (jl_st M_2 1 3 a1) (fun (M_7 : jl_Mem) =>
  some (x2_5, M_7))) else (
  jl_chk (jl_isB (0 : Int32)) (
  jl_lt (jl_st M_2 23 2 (0 : Int32)) (fun (M_8 : jl_Mem) =>
  jl_lt (jl_st M_8 1 3 a1) (fun (M_9 : jl_Mem) =>
  some (x2_5, M_9))))))))

noncomputable def jf_X4_about (a1 : Int32) (a2 : Int32) (M : jl_Mem) : Option (Int32 × jl_Mem) :=
  jl_bnd (jf_X0_hasList a1 M) (fun r_1 M_2 =>
  if r_1 = 0 then (
  some ((-1 : Int32), M_2)) else (
  if a2 = 0 then (
  jl_chk (jl_inb a1 4) (
  some ((M_2 2 a1.toNatClampNeg), M_2))) else (
  if a2 = 1 then (
  jl_chk (jl_inb a1 4) (
  some ((M_2 3 a1.toNatClampNeg), M_2))) else (
  if a2 = 2 then (
  jl_chk (jl_inb a1 4) (
  some ((M_2 4 a1.toNatClampNeg), M_2))) else (
  if a2 = 3 then (
  jl_chk (jl_inb a1 4) (
  some ((M_2 5 a1.toNatClampNeg), M_2))) else (
  some ((-1 : Int32), M_2)))))))

noncomputable def jf_X4_row (a1 : Int32) (a2 : Int32) (M : jl_Mem) : Option (Int32 × jl_Mem) :=
  jl_bnd (jf_X0_hasList a1 M) (fun r_1 M_2 =>
  if r_1 = 0 then (
  some ((-1 : Int32), M_2)) else (
  jl_chk (jl_inb a1 4) (
  jl_bnd (jf_X4_within a2 (0 : Int32) ((M_2 5 a1.toNatClampNeg) - (1 : Int32)) M_2) (fun r_6 M_7 =>
  if r_6 = 0 then (
  some ((-1 : Int32), M_7)) else (
  jl_chk (jl_inb a1 4) (
  jl_chk (jl_inb a2 20) (
  some ((M_7 (12 + a1.toNatClampNeg) a2.toNatClampNeg), M_7))))))))

noncomputable def jf_X4_place (a1 : Int32) (a2 : Int32) (a3 : Int32) (M : jl_Mem) : Option (Int32 × jl_Mem) :=
  jl_bnd (jf_X0_hasList a1 M) (fun r_1 M_2 =>
  if r_1 = 0 then (
  some ((-1 : Int32), M_2)) else (
  jl_bnd (jf_X0_hasThing a2 M_2) (fun r_5 M_6 =>
  if r_5 = 0 then (
  some ((-1 : Int32), M_6)) else (
  jl_bnd (jf_X4_within a3 (0 : Int32) (1 : Int32) M_6) (fun r_9 M_10 =>
  if r_9 = 0 then (
  some ((-1 : Int32), M_10)) else (
  jl_chk (jl_inb a1 4) (
  jl_chk (jl_inb a2 20) (
  if (M_10 (7 + a1.toNatClampNeg) a2.toNatClampNeg) = 0 then (
  some ((-1 : Int32), M_10)) else (
  if a3 = 0 then (
  jl_chk (jl_inb a1 4) (
  jl_chk (jl_inb a2 20) (
  some ((M_10 (17 + a1.toNatClampNeg) a2.toNatClampNeg), M_10)))) else (
  jl_chk (jl_inb a1 4) (
  jl_chk (jl_inb a2 20) (
  some ((M_10 (7 + a1.toNatClampNeg) a2.toNatClampNeg), M_10)))))))))))))

noncomputable def jf_X4_total (a1 : Int32) (M : jl_Mem) : Option (Int32 × jl_Mem) :=
  jl_bnd (jf_X0_hasThing a1 M) (fun r_1 M_2 =>
  if r_1 = 0 then (
  some ((-1 : Int32), M_2)) else (
  jl_bnd (jf_X0_totalOf a1 M_2) (fun r_5 M_6 =>
  some (r_5, M_6))))

noncomputable def jf_X4_best (a1 : Int32) (M : jl_Mem) : Option (Int32 × jl_Mem) :=
  jl_bnd (jf_X0_hasThing a1 M) (fun r_1 M_2 =>
  if r_1 = 0 then (
  some ((-1 : Int32), M_2)) else (
  jl_bnd (jf_X0_bestAt a1 M_2) (fun r_5 M_6 =>
  some (r_5, M_6))))

noncomputable def jf_X4_begin (a1 : Int32) (a2 : Int32) (a3 : Int32) (M : jl_Mem) : Option (Int32 × jl_Mem) :=
  jl_bnd (jf_X0_mayAskFor a2 M) (fun r_1 M_2 =>
  if r_1 = 0 then (
  some ((-2 : Int32), M_2)) else (
  jl_bnd (jf_X4_within a1 (0 : Int32) (2 : Int32) M_2) (fun r_5 M_6 =>
  if r_5 = 0 then (
  some ((-2 : Int32), M_6)) else (
  if a1 = (2 : Int32) then (
  jl_bnd (jf_X4_within a3 (1 : Int32) (10 : Int32) M_6) (fun r_17 M_18 =>
  if r_17 = 0 then (
  some ((-2 : Int32), M_18)) else (
  jl_bnd (jf_X1_start a1 a2 a3 M_18) (fun r_21 M_22 =>
  jl_bnd (jf_X4_yes (M_22 23 3) M_22) (fun r_24 M_25 =>
  some (r_24, M_25)))))) else (
  if a3 = 0 then (
  jl_bnd (jf_X1_start a1 a2 a3 M_6) (fun r_11 M_12 =>
  jl_bnd (jf_X4_yes (M_12 23 3) M_12) (fun r_14 M_15 =>
  some (r_14, M_15)))) else (
  some ((-2 : Int32), M_6)))))))

noncomputable def jf_X4_round (M : jl_Mem) : Option (Int32 × jl_Mem) :=
  if (M 23 2) = 0 then (
  some ((-1 : Int32), M)) else (
  if (M 23 3) = 0 then (
  jl_bnd (jf_X1_workRound M) (fun r_3 M_4 =>
  jl_bnd (jf_X4_yes (M_4 23 3) M_4) (fun r_6 M_7 =>
  some (r_6, M_7)))) else (
  some ((-3 : Int32), M)))

noncomputable def jf_X4_finish_L35 (x1_3 : Int32) (x2L35 : Int32) (ML35 : jl_Mem) : Option ((Int32 × jl_Mem) ⊕ (Int32 × jl_Mem)) :=
  if (20 : Int32) ≤ x2L35 then (
  some (.inr (((ML35 23 7) - x1_3), ML35))) else (
  if (ML35 23 3) = 0 then (
  jl_bnd (jf_X1_workRound ML35) (fun r_7 M_8 =>
  jl_lt (x2L35 + 1) (fun (x2_10 : Int32) =>
  some (.inl (x2_10, M_8))))) else (
  some (.inr (((ML35 23 7) - x1_3), ML35))))

noncomputable def jf_X4_finish (M : jl_Mem) : Option (Int32 × jl_Mem) :=
  if (M 23 2) = 0 then (
  some ((-1 : Int32), M)) else (
  if (M 23 3) = 0 then (
  jl_lt (M 23 7) (fun (x1_3 : Int32) =>
  jl_lt (0 : Int32) (fun (x2_4 : Int32) =>
  jl_wh (fun q => jf_X4_finish_L35 x1_3 q.1 q.2) jl_F (x2_4, M)))) else (
  some ((-3 : Int32), M)))

noncomputable def jf_X4_reader (a1 : Int32) (M : jl_Mem) : Option (Int32 × jl_Mem) :=
  if (M 23 2) = 0 then (
  some ((-1 : Int32), M)) else (
  if a1 = 0 then (
  some ((M 23 4), M)) else (
  if a1 = 1 then (
  some ((M 23 5), M)) else (
  if a1 = 2 then (
  some ((M 23 7), M)) else (
  if a1 = 3 then (
  jl_bnd (jf_X2_placesSeen 24 M) (fun r_6 M_7 =>
  some (r_6, M_7))) else (
  if a1 = 4 then (
  some ((M 23 8), M)) else (
  if a1 = 5 then (
  some ((M 23 9), M)) else (
  if a1 = 6 then (
  jl_bnd (jf_X4_yes (M 23 3) M) (fun r_12 M_13 =>
  some (r_12, M_13))) else (
  if a1 = 7 then (
  jl_bnd (jf_X2_thingsSeen 24 M) (fun r_16 M_17 =>
  some (r_16, M_17))) else (
  some ((-1 : Int32), M))))))))))

noncomputable def jf_X4_depth (a1 : Int32) (a2 : Int32) (M : jl_Mem) : Option (Int32 × jl_Mem) :=
  jl_bnd (jf_X0_hasList a1 M) (fun r_1 M_2 =>
  if r_1 = 0 then (
  some ((-1 : Int32), M_2)) else (
  jl_bnd (jf_X4_within a2 (0 : Int32) (1 : Int32) M_2) (fun r_5 M_6 =>
  if r_5 = 0 then (
  some ((-1 : Int32), M_6)) else (
  if (M_6 23 2) = 0 then (
  some ((-1 : Int32), M_6)) else (
  if a2 = 0 then (
  jl_chk (jl_inb a1 4) (
  some ((M_6 25 a1.toNatClampNeg), M_6))) else (
  jl_bnd (jf_X2_topOf 24 a1 M_6) (fun r_11 M_12 =>
  some (r_11, M_12))))))))

noncomputable def jf_X4_known (a1 : Int32) (a2 : Int32) (M : jl_Mem) : Option (Int32 × jl_Mem) :=
  jl_bnd (jf_X0_hasList a1 M) (fun r_1 M_2 =>
  if r_1 = 0 then (
  some ((-1 : Int32), M_2)) else (
  jl_bnd (jf_X0_hasThing a2 M_2) (fun r_5 M_6 =>
  if r_5 = 0 then (
  some ((-1 : Int32), M_6)) else (
  if (M_6 23 2) = 0 then (
  some ((-1 : Int32), M_6)) else (
  jl_bnd (jf_X2_isKnown 24 a1 a2 M_6) (fun r_10 M_11 =>
  jl_bnd (jf_X4_yes r_10 M_11) (fun r_13 M_14 =>
  some (r_13, M_14))))))))

noncomputable def jf_X4_bound (a1 : Int32) (a2 : Int32) (M : jl_Mem) : Option (Int32 × jl_Mem) :=
  jl_bnd (jf_X0_hasThing a1 M) (fun r_1 M_2 =>
  if r_1 = 0 then (
  some ((-1 : Int32), M_2)) else (
  if (M_2 23 2) = 0 then (
  some ((-1 : Int32), M_2)) else (
  jl_bnd (jf_X4_within a2 (0 : Int32) (1 : Int32) M_2) (fun r_6 M_7 =>
  if r_6 = 0 then (
  some ((-2 : Int32), M_7)) else (
  if a2 = (1 : Int32) then (
  jl_bnd (jf_X2_highOf 24 a1 M_7) (fun r_14 M_15 =>
  some (r_14, M_15))) else (
  jl_bnd (jf_X2_lowOf 24 a1 M_7) (fun r_11 M_12 =>
  some (r_11, M_12))))))))

noncomputable def jf_X4_ahead (a1 : Int32) (a2 : Int32) (M : jl_Mem) : Option (Int32 × jl_Mem) :=
  jl_bnd (jf_X0_hasThing a1 M) (fun r_1 M_2 =>
  if r_1 = 0 then (
  some ((-1 : Int32), M_2)) else (
  jl_bnd (jf_X0_hasThing a2 M_2) (fun r_5 M_6 =>
  if r_5 = 0 then (
  some ((-1 : Int32), M_6)) else (
  if (M_6 23 2) = 0 then (
  some ((-1 : Int32), M_6)) else (
  if a1 = a2 then (
  some ((-2 : Int32), M_6)) else (
  jl_bnd (jf_X2_lowOf 24 a1 M_6) (fun r_11 M_12 =>
  jl_bnd (jf_X2_highOf 24 a2 M_12) (fun r_14 M_15 =>
  jl_bnd (jf_X4_comesFirst a1 r_11 a2 r_14 M_15) (fun r_17 M_18 =>
  jl_bnd (jf_X4_yes r_17 M_18) (fun r_20 M_21 =>
  some (r_20, M_21)))))))))))

noncomputable def jf_X4_found (a1 : Int32) (M : jl_Mem) : Option (Int32 × jl_Mem) :=
  if (M 23 2) = 0 then (
  some ((-1 : Int32), M)) else (
  jl_bnd (jf_X4_within a1 (0 : Int32) ((M 23 5) - (1 : Int32)) M) (fun r_2 M_3 =>
  if r_2 = 0 then (
  some ((-1 : Int32), M_3)) else (
  if (M_3 23 3) = 0 then (
  some ((-3 : Int32), M_3)) else (
  jl_bnd (jf_X2_foundAt 24 a1 M_3) (fun r_7 M_8 =>
  some (r_7, M_8))))))

noncomputable def jf_X4_enough (a1 : Int32) (a2 : Int32) (a3 : Int32) (a4 : Int32) (a5 : Int32) (M : jl_Mem) : Option (Int32 × jl_Mem) :=
  jl_bnd (jf_X0_mayAskFor a1 M) (fun r_1 M_2 =>
  if r_1 = 0 then (
  some ((-2 : Int32), M_2)) else (
  jl_bnd (jf_X0_isDepth (0 : Int32) a2 M_2) (fun r_5 M_6 =>
  if r_5 = 0 then (
  some ((-2 : Int32), M_6)) else (
  jl_bnd (jf_X0_isDepth (1 : Int32) a3 M_6) (fun r_9 M_10 =>
  if r_9 = 0 then (
  some ((-2 : Int32), M_10)) else (
  jl_bnd (jf_X0_isDepth (2 : Int32) a4 M_10) (fun r_13 M_14 =>
  if r_13 = 0 then (
  some ((-2 : Int32), M_14)) else (
  jl_bnd (jf_X0_isDepth (3 : Int32) a5 M_14) (fun r_17 M_18 =>
  if r_17 = 0 then (
  some ((-2 : Int32), M_18)) else (
  jl_bnd (jf_X3_isEnough a1 a2 a3 a4 a5 M_18) (fun r_21 M_22 =>
  jl_bnd (jf_X4_yes r_21 M_22) (fun r_24 M_25 =>
  some (r_24, M_25)))))))))))))

noncomputable def jf_X4_least (a1 : Int32) (M : jl_Mem) : Option (Int32 × jl_Mem) :=
  jl_bnd (jf_X0_mayAskFor a1 M) (fun r_1 M_2 =>
  if r_1 = 0 then (
  some ((-2 : Int32), M_2)) else (
  jl_bnd (jf_X0_depthRows M_2) (fun r_5 M_6 =>
  if r_5 ≤ (500 : Int32) then (
  jl_bnd (jf_X3_cheapest a1 M_6) (fun r_9 M_10 =>
  some (r_9, M_10))) else (
  some ((-3 : Int32), M_6)))))

noncomputable def jf_X4_leastDepth (a1 : Int32) (M : jl_Mem) : Option (Int32 × jl_Mem) :=
  jl_bnd (jf_X4_within a1 (0 : Int32) (3 : Int32) M) (fun r_1 M_2 =>
  if r_1 = 0 then (
  some ((-1 : Int32), M_2)) else (
  jl_chk (jl_inb a1 4) (
  some ((M_2 35 a1.toNatClampNeg), M_2))))

noncomputable def jf_X4_count (a1 : Int32) (M : jl_Mem) : Option (Int32 × jl_Mem) :=
  if a1 = 0 then (
  some ((M 1 0), M)) else (
  if a1 = 1 then (
  some ((M 1 1), M)) else (
  if a1 = 2 then (
  some ((M 1 2), M)) else (
  if a1 = 3 then (
  some ((M 1 3), M)) else (
  if a1 = 4 then (
  jl_bnd (jf_X4_yes (M 23 2) M) (fun r_6 M_7 =>
  some (r_6, M_7))) else (
  some ((-1 : Int32), M))))))
noncomputable def jf_X5_in (a1 : Int32) (a2 : Int32) (a3 : Int32) (M : jl_Mem) : Option (Int32 × jl_Mem) :=
  if a1 < a2 then (
  jl_chk (jl_isB (0 : Int32)) (some ((0 : Int32), M))) else (
  if a3 < a1 then (
  jl_chk (jl_isB (0 : Int32)) (some ((0 : Int32), M))) else (
  jl_chk (jl_isB (1 : Int32)) (some ((1 : Int32), M))))

noncomputable def jf_X5_isThing (a1 : Int32) (M : jl_Mem) : Option (Int32 × jl_Mem) :=
  jl_bnd (jf_X5_in a1 (0 : Int32) ((M 0 1) - (1 : Int32)) M) (fun r_1 M_2 =>
  jl_chk (jl_isB r_1) (some (r_1, M_2)))

noncomputable def jf_X5_isList (a1 : Int32) (M : jl_Mem) : Option (Int32 × jl_Mem) :=
  jl_bnd (jf_X5_in a1 (0 : Int32) ((M 0 2) - (1 : Int32)) M) (fun r_1 M_2 =>
  jl_chk (jl_isB r_1) (some (r_1, M_2)))

noncomputable def jf_X5_thing_L14 (x1L14 : Int32) (ML14 : jl_Mem) : Option ((Int32 × jl_Mem) ⊕ (Int32 × jl_Mem)) :=
  if (4 : Int32) ≤ x1L14 then (
  jl_lt (jl_st ML14 0 1 ((ML14 0 1) + (1 : Int32))) (fun (M_4 : jl_Mem) =>
  jl_chk (jl_isB (0 : Int32)) (
  jl_lt (jl_st M_4 0 16 (0 : Int32)) (fun (M_5 : jl_Mem) =>
  some (.inr (((M_5 0 1) - (1 : Int32)), M_5)))))) else (
  jl_chk (jl_inb (((20 : Int32) * x1L14) + (ML14 0 1)) 80) (
  jl_lt (jl_st ML14 4 (((20 : Int32) * x1L14) + (ML14 0 1)).toNatClampNeg (0 : Int32)) (fun (M_8 : jl_Mem) =>
  jl_lt (x1L14 + 1) (fun (x1_9 : Int32) =>
  some (.inl (x1_9, M_8))))))

noncomputable def jf_X5_thing (M : jl_Mem) : Option (Int32 × jl_Mem) :=
  if (M 0 1) = (20 : Int32) then (
  some ((-4 : Int32), M)) else (
  jl_lt (0 : Int32) (fun (x1_2 : Int32) =>
  jl_wh (fun q => jf_X5_thing_L14 q.1 q.2) jl_F (x1_2, M)))

noncomputable def jf_X5_list (a1 : Int32) (a2 : Int32) (a3 : Int32) (M : jl_Mem) : Option (Int32 × jl_Mem) :=
  jl_bnd (jf_X5_in a1 (0 : Int32) (10 : Int32) M) (fun r_1 M_2 =>
  if r_1 = 0 then (
  some ((-2 : Int32), M_2)) else (
  jl_bnd (jf_X5_in a2 (1 : Int32) (100 : Int32) M_2) (fun r_5 M_6 =>
  if r_5 = 0 then (
  some ((-2 : Int32), M_6)) else (
  jl_bnd (jf_X5_in a3 (0 : Int32) (100 : Int32) M_6) (fun r_9 M_10 =>
  if r_9 = 0 then (
  some ((-2 : Int32), M_10)) else (
  if (M_10 0 2) = (4 : Int32) then (
  some ((-4 : Int32), M_10)) else (
  jl_chk (jl_inb (M_10 0 2) 4) (
  jl_lt (jl_st M_10 1 (M_10 0 2).toNatClampNeg a1) (fun (M_15 : jl_Mem) =>
  jl_chk (jl_inb (M_15 0 2) 4) (
  jl_lt (jl_st M_15 2 (M_15 0 2).toNatClampNeg a2) (fun (M_17 : jl_Mem) =>
  jl_chk (jl_inb (M_17 0 2) 4) (
  jl_lt (jl_st M_17 3 (M_17 0 2).toNatClampNeg a3) (fun (M_19 : jl_Mem) =>
  jl_chk (jl_inb (M_19 0 2) 4) (
  jl_lt (jl_st M_19 6 (M_19 0 2).toNatClampNeg (0 : Int32)) (fun (M_21 : jl_Mem) =>
  jl_lt (jl_st M_21 0 2 ((M_21 0 2) + (1 : Int32))) (fun (M_22 : jl_Mem) =>
  jl_chk (jl_isB (0 : Int32)) (
  jl_lt (jl_st M_22 0 16 (0 : Int32)) (fun (M_23 : jl_Mem) =>
  some (((M_23 0 2) - (1 : Int32)), M_23)))))))))))))))))))

noncomputable def jf_X5_order_L41 (a1 : Int32) (x2L9 : Int32) (x3L41 : Int32) (ML41 : jl_Mem) : Option ((Int32 × jl_Mem) ⊕ ((Int32 × jl_Mem) ⊕ (Int32 × jl_Mem))) :=
  if x3L41 ≤ 0 then (
  jl_chk (jl_inb (((20 : Int32) * a1) + x3L41) 80) (
  jl_lt (jl_st ML41 5 (((20 : Int32) * a1) + x3L41).toNatClampNeg x2L9) (fun (M_13 : jl_Mem) =>
  jl_chk (jl_inb a1 4) (
  jl_chk (jl_inb a1 4) (
  jl_lt (jl_st M_13 6 a1.toNatClampNeg ((M_13 6 a1.toNatClampNeg) + (1 : Int32))) (fun (M_16 : jl_Mem) =>
  jl_lt (x2L9 + 1) (fun (x2_17 : Int32) =>
  some (.inr (.inl (x2_17, M_16)))))))))) else (
  jl_chk (jl_inb ((((20 : Int32) * a1) + x3L41) - (1 : Int32)) 80) (
  jl_chk (jl_inb (((20 : Int32) * a1) + (ML41 5 ((((20 : Int32) * a1) + x3L41) - (1 : Int32)).toNatClampNeg)) 80) (
  jl_chk (jl_inb (((20 : Int32) * a1) + x2L9) 80) (
  if (ML41 4 (((20 : Int32) * a1) + x2L9).toNatClampNeg) ≤ (ML41 4 (((20 : Int32) * a1) + (ML41 5 ((((20 : Int32) * a1) + x3L41) - (1 : Int32)).toNatClampNeg)).toNatClampNeg) then (
  jl_chk (jl_inb (((20 : Int32) * a1) + x3L41) 80) (
  jl_lt (jl_st ML41 5 (((20 : Int32) * a1) + x3L41).toNatClampNeg x2L9) (fun (M_23 : jl_Mem) =>
  jl_chk (jl_inb a1 4) (
  jl_chk (jl_inb a1 4) (
  jl_lt (jl_st M_23 6 a1.toNatClampNeg ((M_23 6 a1.toNatClampNeg) + (1 : Int32))) (fun (M_26 : jl_Mem) =>
  jl_lt (x2L9 + 1) (fun (x2_27 : Int32) =>
  some (.inr (.inl (x2_27, M_26)))))))))) else (
  jl_chk (jl_inb ((((20 : Int32) * a1) + x3L41) - (1 : Int32)) 80) (
  jl_chk (jl_inb (((20 : Int32) * a1) + x3L41) 80) (
  jl_lt (jl_st ML41 5 (((20 : Int32) * a1) + x3L41).toNatClampNeg (ML41 5 ((((20 : Int32) * a1) + x3L41) - (1 : Int32)).toNatClampNeg)) (fun (M_30 : jl_Mem) =>
  jl_lt (x3L41 + (-1)) (fun (x3_31 : Int32) =>
  some (.inl (x3_31, M_30)))))))))))

noncomputable def jf_X5_order_L9 (a1 : Int32) (x2L9 : Int32) (ML9 : jl_Mem) : Option ((Int32 × jl_Mem) ⊕ (Int32 × jl_Mem)) :=
  if (ML9 0 1) ≤ x2L9 then (
  jl_chk (jl_isB (0 : Int32)) (
  jl_lt (jl_st ML9 0 16 (0 : Int32)) (fun (M_5 : jl_Mem) =>
  some (.inr (0, M_5))))) else (
  jl_chk (jl_inb (((20 : Int32) * a1) + x2L9) 80) (
  if (ML9 4 (((20 : Int32) * a1) + x2L9).toNatClampNeg) = 0 then (
  jl_lt (x2L9 + 1) (fun (x2_32 : Int32) =>
  some (.inl (x2_32, ML9)))) else (
  jl_chk (jl_inb a1 4) (
  jl_lt (ML9 6 a1.toNatClampNeg) (fun (x3_10 : Int32) =>
  jl_wh (fun q => jf_X5_order_L41 a1 x2L9 q.1 q.2) jl_F (x3_10, ML9))))))

noncomputable def jf_X5_order (a1 : Int32) (M : jl_Mem) : Option (Int32 × jl_Mem) :=
  jl_chk (jl_inb a1 4) (
  jl_lt (jl_st M 6 a1.toNatClampNeg (0 : Int32)) (fun (M_2 : jl_Mem) =>
  jl_lt (0 : Int32) (fun (x2_3 : Int32) =>
  jl_wh (fun q => jf_X5_order_L9 a1 q.1 q.2) jl_F (x2_3, M_2))))

noncomputable def jf_X5_mark (a1 : Int32) (a2 : Int32) (a3 : Int32) (M : jl_Mem) : Option (Int32 × jl_Mem) :=
  jl_bnd (jf_X5_isList a1 M) (fun r_1 M_2 =>
  if r_1 = 0 then (
  some ((-1 : Int32), M_2)) else (
  jl_bnd (jf_X5_isThing a2 M_2) (fun r_5 M_6 =>
  if r_5 = 0 then (
  some ((-1 : Int32), M_6)) else (
  jl_bnd (jf_X5_in a3 (1 : Int32) (1000 : Int32) M_6) (fun r_9 M_10 =>
  if r_9 = 0 then (
  some ((-2 : Int32), M_10)) else (
  jl_chk (jl_inb (((20 : Int32) * a1) + a2) 80) (
  jl_lt (M_10 4 (((20 : Int32) * a1) + a2).toNatClampNeg) (fun (x4_14 : Int32) =>
  jl_chk (jl_inb (((20 : Int32) * a1) + a2) 80) (
  jl_lt (jl_st M_10 4 (((20 : Int32) * a1) + a2).toNatClampNeg a3) (fun (M_16 : jl_Mem) =>
  if a3 = x4_14 then (
  some (x4_14, M_16)) else (
  jl_bnd (jf_X5_order a1 M_16) (fun r_18 M_19 =>
  some (x4_14, M_19)))))))))))))

noncomputable def jf_X5_unmark (a1 : Int32) (a2 : Int32) (M : jl_Mem) : Option (Int32 × jl_Mem) :=
  jl_bnd (jf_X5_isList a1 M) (fun r_1 M_2 =>
  if r_1 = 0 then (
  some ((-1 : Int32), M_2)) else (
  jl_bnd (jf_X5_isThing a2 M_2) (fun r_5 M_6 =>
  if r_5 = 0 then (
  some ((-1 : Int32), M_6)) else (
  jl_chk (jl_inb (((20 : Int32) * a1) + a2) 80) (
  jl_lt (M_6 4 (((20 : Int32) * a1) + a2).toNatClampNeg) (fun (x3_10 : Int32) =>
  jl_chk (jl_inb (((20 : Int32) * a1) + a2) 80) (
  jl_lt (jl_st M_6 4 (((20 : Int32) * a1) + a2).toNatClampNeg (0 : Int32)) (fun (M_12 : jl_Mem) =>
  if x3_10 = 0 then (
  some (x3_10, M_12)) else (
  jl_bnd (jf_X5_order a1 M_12) (fun r_14 M_15 =>
  some (x3_10, M_15)))))))))))

noncomputable def jf_X5_weigh (a1 : Int32) (a2 : Int32) (M : jl_Mem) : Option (Int32 × jl_Mem) :=
  jl_bnd (jf_X5_isList a1 M) (fun r_1 M_2 =>
  if r_1 = 0 then (
  some ((-1 : Int32), M_2)) else (
  jl_bnd (jf_X5_in a2 (0 : Int32) (10 : Int32) M_2) (fun r_5 M_6 =>
  if r_5 = 0 then (
  some ((-2 : Int32), M_6)) else (
  jl_chk (jl_inb a1 4) (
  jl_lt (M_6 1 a1.toNatClampNeg) (fun (x3_10 : Int32) =>
  jl_chk (jl_inb a1 4) (
  jl_lt (jl_st M_6 1 a1.toNatClampNeg a2) (fun (M_12 : jl_Mem) =>
  if (M_12 0 16) = 0 then (
  jl_chk (jl_isB (0 : Int32)) (
  jl_lt (jl_st M_12 0 16 (0 : Int32)) (fun (M_14 : jl_Mem) =>
  some (x3_10, M_14)))) else (
  if a2 = x3_10 then (
  jl_chk (jl_isB (1 : Int32)) (
  jl_lt (jl_st M_12 0 16 (1 : Int32)) (fun (M_19 : jl_Mem) =>
  some (x3_10, M_19)))) else (
  jl_chk (jl_isB (0 : Int32)) (
  jl_lt (jl_st M_12 0 16 (0 : Int32)) (fun (M_17 : jl_Mem) =>
  some (x3_10, M_17)))))))))))))

noncomputable def jf_X5_rule (a1 : Int32) (M : jl_Mem) : Option (Int32 × jl_Mem) :=
  jl_bnd (jf_X5_in a1 (0 : Int32) (2 : Int32) M) (fun r_1 M_2 =>
  if r_1 = 0 then (
  some ((-2 : Int32), M_2)) else (
  jl_lt (M_2 0 3) (fun (x2_5 : Int32) =>
  jl_lt (jl_st M_2 0 3 a1) (fun (M_6 : jl_Mem) =>
  if (M_6 0 16) = 0 then (
  jl_chk (jl_isB (0 : Int32)) (
  jl_lt (jl_st M_6 0 16 (0 : Int32)) (fun (M_8 : jl_Mem) =>
  some (x2_5, M_8)))) else (
  if a1 = x2_5 then (
  jl_chk (jl_isB (1 : Int32)) (
  jl_lt (jl_st M_6 0 16 (1 : Int32)) (fun (M_13 : jl_Mem) =>
  some (x2_5, M_13)))) else (
  jl_chk (jl_isB (0 : Int32)) (
  jl_lt (jl_st M_6 0 16 (0 : Int32)) (fun (M_11 : jl_Mem) =>
  some (x2_5, M_11)))))))))

noncomputable def jf_X5_about (a1 : Int32) (a2 : Int32) (M : jl_Mem) : Option (Int32 × jl_Mem) :=
  jl_bnd (jf_X5_isList a1 M) (fun r_1 M_2 =>
  if r_1 = 0 then (
  some ((-1 : Int32), M_2)) else (
  if a2 = 0 then (
  jl_chk (jl_inb a1 4) (
  some ((M_2 1 a1.toNatClampNeg), M_2))) else (
  if a2 = 1 then (
  jl_chk (jl_inb a1 4) (
  some ((M_2 2 a1.toNatClampNeg), M_2))) else (
  if a2 = 2 then (
  jl_chk (jl_inb a1 4) (
  some ((M_2 3 a1.toNatClampNeg), M_2))) else (
  if a2 = 3 then (
  jl_chk (jl_inb a1 4) (
  some ((M_2 6 a1.toNatClampNeg), M_2))) else (
  some ((-1 : Int32), M_2)))))))

noncomputable def jf_X5_row (a1 : Int32) (a2 : Int32) (M : jl_Mem) : Option (Int32 × jl_Mem) :=
  jl_bnd (jf_X5_isList a1 M) (fun r_1 M_2 =>
  if r_1 = 0 then (
  some ((-1 : Int32), M_2)) else (
  jl_chk (jl_inb a1 4) (
  jl_bnd (jf_X5_in a2 (0 : Int32) ((M_2 6 a1.toNatClampNeg) - (1 : Int32)) M_2) (fun r_6 M_7 =>
  if r_6 = 0 then (
  some ((-1 : Int32), M_7)) else (
  jl_chk (jl_inb (((20 : Int32) * a1) + a2) 80) (
  some ((M_7 5 (((20 : Int32) * a1) + a2).toNatClampNeg), M_7)))))))

noncomputable def jf_X5_placeOf_L2 (a1 : Int32) (a2 : Int32) (x3L2 : Int32) (ML2 : jl_Mem) : Option ((Int32 × jl_Mem) ⊕ (Int32 × jl_Mem)) :=
  jl_chk (jl_inb a1 4) (
  if (ML2 6 a1.toNatClampNeg) ≤ x3L2 then (
  some (.inr ((-1 : Int32), ML2))) else (
  jl_chk (jl_inb (((20 : Int32) * a1) + x3L2) 80) (
  if (ML2 5 (((20 : Int32) * a1) + x3L2).toNatClampNeg) = a2 then (
  some (.inr (x3L2, ML2))) else (
  jl_lt (x3L2 + 1) (fun (x3_6 : Int32) =>
  some (.inl (x3_6, ML2)))))))

noncomputable def jf_X5_placeOf (a1 : Int32) (a2 : Int32) (M : jl_Mem) : Option (Int32 × jl_Mem) :=
  jl_lt (0 : Int32) (fun (x3_1 : Int32) =>
  jl_wh (fun q => jf_X5_placeOf_L2 a1 a2 q.1 q.2) jl_F (x3_1, M))

noncomputable def jf_X5_place (a1 : Int32) (a2 : Int32) (a3 : Int32) (M : jl_Mem) : Option (Int32 × jl_Mem) :=
  jl_bnd (jf_X5_isList a1 M) (fun r_1 M_2 =>
  if r_1 = 0 then (
  some ((-1 : Int32), M_2)) else (
  jl_bnd (jf_X5_isThing a2 M_2) (fun r_5 M_6 =>
  if r_5 = 0 then (
  some ((-1 : Int32), M_6)) else (
  jl_bnd (jf_X5_in a3 (0 : Int32) (1 : Int32) M_6) (fun r_9 M_10 =>
  if r_9 = 0 then (
  some ((-1 : Int32), M_10)) else (
  jl_chk (jl_inb (((20 : Int32) * a1) + a2) 80) (
  if (M_10 4 (((20 : Int32) * a1) + a2).toNatClampNeg) = 0 then (
  some ((-1 : Int32), M_10)) else (
  if a3 = 0 then (
  jl_bnd (jf_X5_placeOf a1 a2 M_10) (fun r_17 M_18 =>
  some (r_17, M_18))) else (
  jl_chk (jl_inb (((20 : Int32) * a1) + a2) 80) (
  some ((M_10 4 (((20 : Int32) * a1) + a2).toNatClampNeg), M_10)))))))))))

noncomputable def jf_X5_totalOfHand_L6 (x1L6 : Int32) (x2L6 : Int32) (x3L6 : Int32) (ML6 : jl_Mem) : Option ((Int32 × Int32 × Int32 × jl_Mem) ⊕ (Int32 × jl_Mem)) :=
  if (ML6 0 2) ≤ x3L6 then (
  some (.inr (x1L6, ML6))) else (
  if (ML6 0 3) = 0 then (
  jl_chk (jl_inb x3L6 4) (
  jl_chk (jl_inb x3L6 4) (
  jl_lt (x1L6 + ((ML6 1 x3L6.toNatClampNeg) * (ML6 7 x3L6.toNatClampNeg))) (fun (x1_52 : Int32) =>
  jl_lt (x3L6 + 1) (fun (x3_53 : Int32) =>
  some (.inl (x1_52, x2L6, x3_53, ML6))))))) else (
  jl_chk (jl_inb x3L6 4) (
  if (ML6 1 x3L6.toNatClampNeg) ≤ 0 then (
  jl_lt (x3L6 + 1) (fun (x3_8 : Int32) =>
  some (.inl (x1L6, x2L6, x3_8, ML6)))) else (
  if x2L6 = 0 then (
  jl_chk (jl_inb x3L6 4) (
  jl_lt (ML6 7 x3L6.toNatClampNeg) (fun (x1_47 : Int32) =>
  jl_lt (1 : Int32) (fun (x2_48 : Int32) =>
  jl_lt (x3L6 + 1) (fun (x3_49 : Int32) =>
  some (.inl (x1_47, x2_48, x3_49, ML6))))))) else (
  jl_chk (jl_inb x3L6 4) (
  if x1L6 ≤ (ML6 7 x3L6.toNatClampNeg) then (
  if (ML6 0 3) = (1 : Int32) then (
  if (0 : Int32) = (1 : Int32) then (
  jl_chk (jl_inb x3L6 4) (
  jl_lt (ML6 7 x3L6.toNatClampNeg) (fun (x1_26 : Int32) =>
  jl_lt (1 : Int32) (fun (x2_27 : Int32) =>
  jl_lt (x3L6 + 1) (fun (x3_28 : Int32) =>
  some (.inl (x1_26, x2_27, x3_28, ML6))))))) else (
  jl_lt x1L6 (fun (x1_22 : Int32) =>
  jl_lt (1 : Int32) (fun (x2_23 : Int32) =>
  jl_lt (x3L6 + 1) (fun (x3_24 : Int32) =>
  some (.inl (x1_22, x2_23, x3_24, ML6))))))) else (
  if (0 : Int32) = (0 : Int32) then (
  jl_chk (jl_inb x3L6 4) (
  jl_lt (ML6 7 x3L6.toNatClampNeg) (fun (x1_18 : Int32) =>
  jl_lt (1 : Int32) (fun (x2_19 : Int32) =>
  jl_lt (x3L6 + 1) (fun (x3_20 : Int32) =>
  some (.inl (x1_18, x2_19, x3_20, ML6))))))) else (
  jl_lt x1L6 (fun (x1_14 : Int32) =>
  jl_lt (1 : Int32) (fun (x2_15 : Int32) =>
  jl_lt (x3L6 + 1) (fun (x3_16 : Int32) =>
  some (.inl (x1_14, x2_15, x3_16, ML6)))))))) else (
  if (ML6 0 3) = (1 : Int32) then (
  if (1 : Int32) = (1 : Int32) then (
  jl_chk (jl_inb x3L6 4) (
  jl_lt (ML6 7 x3L6.toNatClampNeg) (fun (x1_43 : Int32) =>
  jl_lt (1 : Int32) (fun (x2_44 : Int32) =>
  jl_lt (x3L6 + 1) (fun (x3_45 : Int32) =>
  some (.inl (x1_43, x2_44, x3_45, ML6))))))) else (
  jl_lt x1L6 (fun (x1_39 : Int32) =>
  jl_lt (1 : Int32) (fun (x2_40 : Int32) =>
  jl_lt (x3L6 + 1) (fun (x3_41 : Int32) =>
  some (.inl (x1_39, x2_40, x3_41, ML6))))))) else (
  if (1 : Int32) = (0 : Int32) then (
  jl_chk (jl_inb x3L6 4) (
  jl_lt (ML6 7 x3L6.toNatClampNeg) (fun (x1_35 : Int32) =>
  jl_lt (1 : Int32) (fun (x2_36 : Int32) =>
  jl_lt (x3L6 + 1) (fun (x3_37 : Int32) =>
  some (.inl (x1_35, x2_36, x3_37, ML6))))))) else (
  jl_lt x1L6 (fun (x1_31 : Int32) =>
  jl_lt (1 : Int32) (fun (x2_32 : Int32) =>
  jl_lt (x3L6 + 1) (fun (x3_33 : Int32) =>
  some (.inl (x1_31, x2_32, x3_33, ML6))))))))))))))

noncomputable def jf_X5_totalOfHand (M : jl_Mem) : Option (Int32 × jl_Mem) :=
  jl_lt (0 : Int32) (fun (x1_1 : Int32) =>
  jl_lt (0 : Int32) (fun (x2_2 : Int32) =>
  jl_lt (0 : Int32) (fun (x3_3 : Int32) =>
  jl_wh (fun q => jf_X5_totalOfHand_L6 q.1 q.2.1 q.2.2.1 q.2.2.2) jl_F (x1_1, x2_2, x3_3, M))))

noncomputable def jf_X5_totalOf_L2 (a1 : Int32) (x2L2 : Int32) (ML2 : jl_Mem) : Option ((Int32 × jl_Mem) ⊕ (Int32 × jl_Mem)) :=
  if (ML2 0 2) ≤ x2L2 then (
  jl_bnd (jf_X5_totalOfHand ML2) (fun r_3 M_4 =>
  some (.inr (r_3, M_4)))) else (
  jl_chk (jl_inb (((20 : Int32) * x2L2) + a1) 80) (
  jl_chk (jl_inb x2L2 4) (
  jl_lt (jl_st ML2 7 x2L2.toNatClampNeg (ML2 4 (((20 : Int32) * x2L2) + a1).toNatClampNeg)) (fun (M_8 : jl_Mem) =>
  jl_lt (x2L2 + 1) (fun (x2_9 : Int32) =>
  some (.inl (x2_9, M_8)))))))

noncomputable def jf_X5_totalOf (a1 : Int32) (M : jl_Mem) : Option (Int32 × jl_Mem) :=
  jl_lt (0 : Int32) (fun (x2_1 : Int32) =>
  jl_wh (fun q => jf_X5_totalOf_L2 a1 q.1 q.2) jl_F (x2_1, M))

noncomputable def jf_X5_total (a1 : Int32) (M : jl_Mem) : Option (Int32 × jl_Mem) :=
  jl_bnd (jf_X5_isThing a1 M) (fun r_1 M_2 =>
  if r_1 = 0 then (
  some ((-1 : Int32), M_2)) else (
  jl_bnd (jf_X5_totalOf a1 M_2) (fun r_5 M_6 =>
  some (r_5, M_6))))

noncomputable def jf_X5_best_L25 (a1 : Int32) (x2L12 : Int32) (x3L25 : Int32) (x4L25 : Int32) (ML25 : jl_Mem) : Option ((Int32 × Int32 × jl_Mem) ⊕ ((Int32 × jl_Mem) ⊕ (Int32 × jl_Mem))) :=
  if (ML25 0 1) ≤ x4L25 then (
  if x3L25 = a1 then (
  some (.inr (.inr (x2L12, ML25)))) else (
  jl_lt (x2L12 + 1) (fun (x2_11 : Int32) =>
  some (.inr (.inl (x2_11, ML25)))))) else (
  jl_bnd (jf_X5_totalOf x4L25 ML25) (fun r_12 M_13 =>
  jl_bnd (jf_X5_totalOf x2L12 M_13) (fun r_15 M_16 =>
  if r_15 < r_12 then (
  jl_lt (x3L25 + (1 : Int32)) (fun (x3_19 : Int32) =>
  jl_lt (x4L25 + 1) (fun (x4_20 : Int32) =>
  some (.inl (x3_19, x4_20, M_16))))) else (
  jl_bnd (jf_X5_totalOf x4L25 M_16) (fun r_21 M_22 =>
  jl_bnd (jf_X5_totalOf x2L12 M_22) (fun r_24 M_25 =>
  if r_21 = r_24 then (
  if x2L12 ≤ x4L25 then (
  jl_lt (x3L25 + (0 : Int32)) (fun (x3_31 : Int32) =>
  jl_lt (x4L25 + 1) (fun (x4_32 : Int32) =>
  some (.inl (x3_31, x4_32, M_25))))) else (
  jl_lt (x3L25 + (1 : Int32)) (fun (x3_33 : Int32) =>
  jl_lt (x4L25 + 1) (fun (x4_34 : Int32) =>
  some (.inl (x3_33, x4_34, M_25)))))) else (
  jl_lt (x3L25 + (0 : Int32)) (fun (x3_28 : Int32) =>
  jl_lt (x4L25 + 1) (fun (x4_29 : Int32) =>
  some (.inl (x3_28, x4_29, M_25)))))))))))

noncomputable def jf_X5_best_L12 (a1 : Int32) (x2L12 : Int32) (ML12 : jl_Mem) : Option ((Int32 × jl_Mem) ⊕ (Int32 × jl_Mem)) :=
  if (ML12 0 1) ≤ x2L12 then (
  some (.inr ((-1 : Int32), ML12))) else (
  jl_lt (0 : Int32) (fun (x3_7 : Int32) =>
  jl_lt (0 : Int32) (fun (x4_8 : Int32) =>
  jl_wh (fun q => jf_X5_best_L25 a1 x2L12 q.1 q.2.1 q.2.2) jl_F (x3_7, x4_8, ML12))))

noncomputable def jf_X5_best (a1 : Int32) (M : jl_Mem) : Option (Int32 × jl_Mem) :=
  jl_bnd (jf_X5_isThing a1 M) (fun r_1 M_2 =>
  if r_1 = 0 then (
  some ((-1 : Int32), M_2)) else (
  jl_lt (0 : Int32) (fun (x2_5 : Int32) =>
  jl_wh (fun q => jf_X5_best_L12 a1 q.1 q.2) jl_F (x2_5, M_2))))

noncomputable def jf_X5_isKnown (a1 : Int32) (a2 : Int32) (M : jl_Mem) : Option (Int32 × jl_Mem) :=
  jl_chk (jl_inb (((20 : Int32) * a1) + a2) 80) (
  if (M 9 (((20 : Int32) * a1) + a2).toNatClampNeg) = 0 then (
  jl_chk (jl_inb a1 4) (
  jl_chk (jl_inb a1 4) (
  if (M 8 a1.toNatClampNeg) = (M 6 a1.toNatClampNeg) then (
  jl_chk (jl_isB (1 : Int32)) (some ((1 : Int32), M))) else (
  jl_chk (jl_inb (((20 : Int32) * a1) + a2) 80) (
  if (M 4 (((20 : Int32) * a1) + a2).toNatClampNeg) ≤ 0 then (
  jl_chk (jl_isB (0 : Int32)) (some ((0 : Int32), M))) else (
  jl_bnd (jf_X5_placeOf a1 a2 M) (fun r_10 M_11 =>
  jl_chk (jl_inb a1 4) (
  if (M_11 8 a1.toNatClampNeg) ≤ r_10 then (
  jl_chk (jl_isB (0 : Int32)) (some ((0 : Int32), M_11))) else (
  jl_chk (jl_isB (1 : Int32)) (some ((1 : Int32), M_11))))))))))) else (
  jl_chk (jl_isB (1 : Int32)) (some ((1 : Int32), M))))

noncomputable def jf_X5_topOf (a1 : Int32) (M : jl_Mem) : Option (Int32 × jl_Mem) :=
  jl_chk (jl_inb a1 4) (
  jl_chk (jl_inb a1 4) (
  if (M 8 a1.toNatClampNeg) = (M 6 a1.toNatClampNeg) then (
  some ((0 : Int32), M)) else (
  jl_chk (jl_inb a1 4) (
  if (M 8 a1.toNatClampNeg) = 0 then (
  some ((1000 : Int32), M)) else (
  jl_chk (jl_inb a1 4) (
  jl_chk (jl_inb ((((20 : Int32) * a1) + (M 8 a1.toNatClampNeg)) - (1 : Int32)) 80) (
  jl_chk (jl_inb (((20 : Int32) * a1) + (M 5 ((((20 : Int32) * a1) + (M 8 a1.toNatClampNeg)) - (1 : Int32)).toNatClampNeg)) 80) (
  some ((M 4 (((20 : Int32) * a1) + (M 5 ((((20 : Int32) * a1) + (M 8 a1.toNatClampNeg)) - (1 : Int32)).toNatClampNeg)).toNatClampNeg), M)))))))))

noncomputable def jf_X5_boundOf_L2 (a1 : Int32) (a2 : Int32) (x3L2 : Int32) (ML2 : jl_Mem) : Option ((Int32 × jl_Mem) ⊕ (Int32 × jl_Mem)) :=
  if (ML2 0 2) ≤ x3L2 then (
  jl_bnd (jf_X5_totalOfHand ML2) (fun r_3 M_4 =>
  some (.inr (r_3, M_4)))) else (
  jl_bnd (jf_X5_isKnown x3L2 a1 ML2) (fun r_6 M_7 =>
  if r_6 = 0 then (
  if a2 = 0 then (
  jl_chk (jl_inb x3L2 4) (
  jl_lt (jl_st M_7 7 x3L2.toNatClampNeg (0 : Int32)) (fun (M_12 : jl_Mem) =>
  jl_lt (x3L2 + 1) (fun (x3_13 : Int32) =>
  some (.inl (x3_13, M_12)))))) else (
  jl_bnd (jf_X5_topOf x3L2 M_7) (fun r_14 M_15 =>
  jl_chk (jl_inb x3L2 4) (
  jl_lt (jl_st M_15 7 x3L2.toNatClampNeg r_14) (fun (M_18 : jl_Mem) =>
  jl_lt (x3L2 + 1) (fun (x3_19 : Int32) =>
  some (.inl (x3_19, M_18)))))))) else (
  jl_chk (jl_inb (((20 : Int32) * x3L2) + a1) 80) (
  jl_chk (jl_inb x3L2 4) (
  jl_lt (jl_st M_7 7 x3L2.toNatClampNeg (M_7 4 (((20 : Int32) * x3L2) + a1).toNatClampNeg)) (fun (M_22 : jl_Mem) =>
  jl_lt (x3L2 + 1) (fun (x3_23 : Int32) =>
  some (.inl (x3_23, M_22)))))))))

noncomputable def jf_X5_boundOf (a1 : Int32) (a2 : Int32) (M : jl_Mem) : Option (Int32 × jl_Mem) :=
  jl_lt (0 : Int32) (fun (x3_1 : Int32) =>
  jl_wh (fun q => jf_X5_boundOf_L2 a1 a2 q.1 q.2) jl_F (x3_1, M))

noncomputable def jf_X5_isAhead (a1 : Int32) (a2 : Int32) (M : jl_Mem) : Option (Int32 × jl_Mem) :=
  jl_bnd (jf_X5_boundOf a1 (0 : Int32) M) (fun r_1 M_2 =>
  jl_lt r_1 (fun (x3_4 : Int32) =>
  jl_bnd (jf_X5_boundOf a2 (1 : Int32) M_2) (fun r_5 M_6 =>
  jl_lt r_5 (fun (x4_8 : Int32) =>
  if x4_8 < x3_4 then (
  jl_chk (jl_isB (1 : Int32)) (some ((1 : Int32), M_6))) else (
  if x3_4 = x4_8 then (
  if a2 ≤ a1 then (
  jl_chk (jl_isB (0 : Int32)) (some ((0 : Int32), M_6))) else (
  jl_chk (jl_isB (1 : Int32)) (some ((1 : Int32), M_6)))) else (
  jl_chk (jl_isB (0 : Int32)) (some ((0 : Int32), M_6))))))))

noncomputable def jf_X5_isSure_L150 (x2L140 : Int32) (x3L150 : Int32) (ML150 : jl_Mem) : Option ((Int32 × jl_Mem) ⊕ ((Int32 × jl_Mem) ⊕ ((Int32 × jl_Mem) ⊕ ((Int32 × jl_Mem) ⊕ (Int32 × jl_Mem))))) :=
  if (ML150 0 1) ≤ x3L150 then (
  jl_lt (x2L140 + 1) (fun (x2_10 : Int32) =>
  some (.inr (.inl (x2_10, ML150))))) else (
  jl_chk (jl_inb x2L140 20) (
  if (ML150 10 x2L140.toNatClampNeg) = 0 then (
  jl_lt (x3L150 + 1) (fun (x3_13 : Int32) =>
  some (.inl (x3_13, ML150)))) else (
  jl_chk (jl_inb x3L150 20) (
  if (ML150 10 x3L150.toNatClampNeg) = 0 then (
  jl_chk (jl_inb x2L140 20) (
  jl_chk (jl_inb x3L150 20) (
  if (ML150 11 x2L140.toNatClampNeg) < (ML150 12 x3L150.toNatClampNeg) then (
  jl_chk (jl_isB (0 : Int32)) (some (.inr (.inr (.inr (.inr ((0 : Int32), ML150))))))) else (
  jl_chk (jl_inb x2L140 20) (
  jl_chk (jl_inb x3L150 20) (
  if (ML150 11 x2L140.toNatClampNeg) = (ML150 12 x3L150.toNatClampNeg) then (
  if x2L140 ≤ x3L150 then (
  jl_lt (x3L150 + 1) (fun (x3_26 : Int32) =>
  some (.inl (x3_26, ML150)))) else (
  jl_chk (jl_isB (0 : Int32)) (some (.inr (.inr (.inr (.inr ((0 : Int32), ML150)))))))) else (
  jl_lt (x3L150 + 1) (fun (x3_24 : Int32) =>
  some (.inl (x3_24, ML150)))))))))) else (
  jl_lt (x3L150 + 1) (fun (x3_16 : Int32) =>
  some (.inl (x3_16, ML150))))))))

noncomputable def jf_X5_isSure_L140 (x2L140 : Int32) (ML140 : jl_Mem) : Option ((Int32 × jl_Mem) ⊕ ((Int32 × jl_Mem) ⊕ ((Int32 × jl_Mem) ⊕ (Int32 × jl_Mem)))) :=
  if (ML140 0 1) ≤ x2L140 then (
  jl_chk (jl_isB (1 : Int32)) (some (.inr (.inr (.inr ((1 : Int32), ML140)))))) else (
  jl_lt (0 : Int32) (fun (x3_8 : Int32) =>
  jl_wh (fun q => jf_X5_isSure_L150 x2L140 q.1 q.2) jl_F (x3_8, ML140)))

noncomputable def jf_X5_isSure_L55 (a1 : Int32) (x2L42 : Int32) (x3L55 : Int32) (x4L55 : Int32) (ML55 : jl_Mem) : Option ((Int32 × Int32 × jl_Mem) ⊕ ((Int32 × jl_Mem) ⊕ ((Int32 × jl_Mem) ⊕ (Int32 × jl_Mem)))) :=
  if (ML55 0 1) ≤ x4L55 then (
  if a1 ≤ x3L55 then (
  jl_chk (jl_inb x2L42 20) (
  jl_chk (jl_isB (0 : Int32)) (
  jl_lt (jl_st ML55 10 x2L42.toNatClampNeg (0 : Int32)) (fun (M_33 : jl_Mem) =>
  jl_lt (x2L42 + 1) (fun (x2_34 : Int32) =>
  some (.inr (.inl (x2_34, M_33)))))))) else (
  jl_chk (jl_inb x2L42 20) (
  jl_chk (jl_isB (1 : Int32)) (
  jl_lt (jl_st ML55 10 x2L42.toNatClampNeg (1 : Int32)) (fun (M_37 : jl_Mem) =>
  jl_lt (x2L42 + 1) (fun (x2_38 : Int32) =>
  some (.inr (.inl (x2_38, M_37))))))))) else (
  jl_chk (jl_inb x4L55 20) (
  jl_chk (jl_inb x2L42 20) (
  if (ML55 11 x2L42.toNatClampNeg) < (ML55 11 x4L55.toNatClampNeg) then (
  jl_lt (x3L55 + (1 : Int32)) (fun (x3_43 : Int32) =>
  jl_lt (x4L55 + 1) (fun (x4_44 : Int32) =>
  some (.inl (x3_43, x4_44, ML55))))) else (
  jl_chk (jl_inb x4L55 20) (
  jl_chk (jl_inb x2L42 20) (
  if (ML55 11 x4L55.toNatClampNeg) = (ML55 11 x2L42.toNatClampNeg) then (
  if x2L42 ≤ x4L55 then (
  jl_lt (x3L55 + (0 : Int32)) (fun (x3_51 : Int32) =>
  jl_lt (x4L55 + 1) (fun (x4_52 : Int32) =>
  some (.inl (x3_51, x4_52, ML55))))) else (
  jl_lt (x3L55 + (1 : Int32)) (fun (x3_53 : Int32) =>
  jl_lt (x4L55 + 1) (fun (x4_54 : Int32) =>
  some (.inl (x3_53, x4_54, ML55)))))) else (
  jl_lt (x3L55 + (0 : Int32)) (fun (x3_48 : Int32) =>
  jl_lt (x4L55 + 1) (fun (x4_49 : Int32) =>
  some (.inl (x3_48, x4_49, ML55)))))))))))

noncomputable def jf_X5_isSure_L42 (a1 : Int32) (x2L42 : Int32) (ML42 : jl_Mem) : Option ((Int32 × jl_Mem) ⊕ ((Int32 × jl_Mem) ⊕ (Int32 × jl_Mem))) :=
  if (ML42 0 1) ≤ x2L42 then (
  jl_lt (0 : Int32) (fun (x2_5 : Int32) =>
  jl_wh (fun q => jf_X5_isSure_L140 q.1 q.2) jl_F (x2_5, ML42))) else (
  jl_lt (0 : Int32) (fun (x3_28 : Int32) =>
  jl_lt (0 : Int32) (fun (x4_29 : Int32) =>
  jl_wh (fun q => jf_X5_isSure_L55 a1 x2L42 q.1 q.2.1 q.2.2) jl_F (x3_28, x4_29, ML42))))

noncomputable def jf_X5_isSure_L2 (a1 : Int32) (x2L2 : Int32) (ML2 : jl_Mem) : Option ((Int32 × jl_Mem) ⊕ (Int32 × jl_Mem)) :=
  if (ML2 0 1) ≤ x2L2 then (
  jl_lt (0 : Int32) (fun (x2_3 : Int32) =>
  jl_wh (fun q => jf_X5_isSure_L42 a1 q.1 q.2) jl_F (x2_3, ML2))) else (
  jl_bnd (jf_X5_boundOf x2L2 (0 : Int32) ML2) (fun r_55 M_56 =>
  jl_chk (jl_inb x2L2 20) (
  jl_lt (jl_st M_56 11 x2L2.toNatClampNeg r_55) (fun (M_59 : jl_Mem) =>
  jl_bnd (jf_X5_boundOf x2L2 (1 : Int32) M_59) (fun r_60 M_61 =>
  jl_chk (jl_inb x2L2 20) (
  jl_lt (jl_st M_61 12 x2L2.toNatClampNeg r_60) (fun (M_64 : jl_Mem) =>
  jl_lt (x2L2 + 1) (fun (x2_65 : Int32) =>
  some (.inl (x2_65, M_64))))))))))

noncomputable def jf_X5_isSure (a1 : Int32) (M : jl_Mem) : Option (Int32 × jl_Mem) :=
  jl_lt (0 : Int32) (fun (x2_1 : Int32) =>
  jl_wh (fun q => jf_X5_isSure_L2 a1 q.1 q.2) jl_F (x2_1, M))

noncomputable def jf_X5_looks_L14 (x1L14 : Int32) (ML14 : jl_Mem) : Option ((Int32 × jl_Mem) ⊕ (Int32 × jl_Mem)) :=
  if (20 : Int32) ≤ x1L14 then (
  jl_chk (jl_isB (ML14 0 24)) (some (.inr ((ML14 0 24), ML14)))) else (
  jl_chk (jl_inb x1L14 20) (
  jl_chk (jl_inb x1L14 20) (
  jl_chk (jl_isB (ML14 10 x1L14.toNatClampNeg)) (
  jl_lt (jl_st ML14 13 x1L14.toNatClampNeg (ML14 10 x1L14.toNatClampNeg)) (fun (M_10 : jl_Mem) =>
  jl_lt (x1L14 + 1) (fun (x1_11 : Int32) =>
  some (.inl (x1_11, M_10))))))))

noncomputable def jf_X5_looks (M : jl_Mem) : Option (Int32 × jl_Mem) :=
  jl_bnd (jf_X5_isSure (M 0 18) M) (fun r_1 M_2 =>
  jl_chk (jl_isB r_1) (
  jl_lt (jl_st M_2 0 24 r_1) (fun (M_4 : jl_Mem) =>
  jl_lt (0 : Int32) (fun (x1_5 : Int32) =>
  jl_wh (fun q => jf_X5_looks_L14 q.1 q.2) jl_F (x1_5, M_4)))))

noncomputable def jf_X5_clear_L22 (x1L22 : Int32) (ML22 : jl_Mem) : Option ((Int32 × jl_Mem) ⊕ ((Int32 × jl_Mem) ⊕ (Int32 × jl_Mem))) :=
  if (80 : Int32) ≤ x1L22 then (
  some (.inr (.inr (0, ML22)))) else (
  jl_chk (jl_inb x1L22 80) (
  jl_chk (jl_isB (0 : Int32)) (
  jl_lt (jl_st ML22 9 x1L22.toNatClampNeg (0 : Int32)) (fun (M_6 : jl_Mem) =>
  jl_lt (x1L22 + 1) (fun (x1_7 : Int32) =>
  some (.inl (x1_7, M_6)))))))

noncomputable def jf_X5_clear_L2 (x1L2 : Int32) (ML2 : jl_Mem) : Option ((Int32 × jl_Mem) ⊕ (Int32 × jl_Mem)) :=
  if (4 : Int32) ≤ x1L2 then (
  jl_lt (0 : Int32) (fun (x1_3 : Int32) =>
  jl_wh (fun q => jf_X5_clear_L22 q.1 q.2) jl_F (x1_3, ML2))) else (
  jl_chk (jl_inb x1L2 4) (
  jl_lt (jl_st ML2 8 x1L2.toNatClampNeg (0 : Int32)) (fun (M_10 : jl_Mem) =>
  jl_lt (x1L2 + 1) (fun (x1_11 : Int32) =>
  some (.inl (x1_11, M_10))))))

noncomputable def jf_X5_clear (M : jl_Mem) : Option (Int32 × jl_Mem) :=
  jl_lt (0 : Int32) (fun (x1_1 : Int32) =>
  jl_wh (fun q => jf_X5_clear_L2 q.1 q.2) jl_F (x1_1, M))

noncomputable def jf_X5_begin (a1 : Int32) (a2 : Int32) (a3 : Int32) (M : jl_Mem) : Option (Int32 × jl_Mem) :=
  jl_bnd (jf_X5_in a2 (1 : Int32) (M 0 1) M) (fun r_1 M_2 =>
  if r_1 = 0 then (
  some ((-2 : Int32), M_2)) else (
  jl_bnd (jf_X5_in a1 (0 : Int32) (2 : Int32) M_2) (fun r_5 M_6 =>
  if r_5 = 0 then (
  some ((-2 : Int32), M_6)) else (
  if a1 = (2 : Int32) then (
  jl_bnd (jf_X5_in a3 (1 : Int32) (10 : Int32) M_6) (fun r_27 M_28 =>
  if r_27 = 0 then (
  some ((-2 : Int32), M_28)) else (
  jl_chk (jl_isB (1 : Int32)) (
  jl_lt (jl_st M_28 0 16 (1 : Int32)) (fun (M_31 : jl_Mem) =>
  jl_lt (jl_st M_31 0 17 a1) (fun (M_32 : jl_Mem) =>
  jl_lt (jl_st M_32 0 18 a2) (fun (M_33 : jl_Mem) =>
  jl_lt (jl_st M_33 0 19 a3) (fun (M_34 : jl_Mem) =>
  jl_lt (jl_st M_34 0 20 (0 : Int32)) (fun (M_35 : jl_Mem) =>
  jl_lt (jl_st M_35 0 21 (0 : Int32)) (fun (M_36 : jl_Mem) =>
  jl_lt (jl_st M_36 0 22 (0 : Int32)) (fun (M_37 : jl_Mem) =>
  jl_lt (jl_st M_37 0 23 (0 : Int32)) (fun (M_38 : jl_Mem) =>
  jl_bnd (jf_X5_clear M_38) (fun r_39 M_40 =>
  jl_bnd (jf_X5_looks M_40) (fun r_42 M_43 =>
  if r_42 = 0 then (
  some ((0 : Int32), M_43)) else (
  some ((1 : Int32), M_43)))))))))))))))) else (
  if a3 = 0 then (
  jl_chk (jl_isB (1 : Int32)) (
  jl_lt (jl_st M_6 0 16 (1 : Int32)) (fun (M_11 : jl_Mem) =>
  jl_lt (jl_st M_11 0 17 a1) (fun (M_12 : jl_Mem) =>
  jl_lt (jl_st M_12 0 18 a2) (fun (M_13 : jl_Mem) =>
  jl_lt (jl_st M_13 0 19 a3) (fun (M_14 : jl_Mem) =>
  jl_lt (jl_st M_14 0 20 (0 : Int32)) (fun (M_15 : jl_Mem) =>
  jl_lt (jl_st M_15 0 21 (0 : Int32)) (fun (M_16 : jl_Mem) =>
  jl_lt (jl_st M_16 0 22 (0 : Int32)) (fun (M_17 : jl_Mem) =>
  jl_lt (jl_st M_17 0 23 (0 : Int32)) (fun (M_18 : jl_Mem) =>
  jl_bnd (jf_X5_clear M_18) (fun r_19 M_20 =>
  jl_bnd (jf_X5_looks M_20) (fun r_22 M_23 =>
  if r_22 = 0 then (
  some ((0 : Int32), M_23)) else (
  some ((1 : Int32), M_23)))))))))))))) else (
  some ((-2 : Int32), M_6)))))))

noncomputable def jf_X5_looksUp_L2 (a1 : Int32) (x2L2 : Int32) (ML2 : jl_Mem) : Option ((Int32 × jl_Mem) ⊕ (Int32 × jl_Mem)) :=
  if (ML2 0 2) ≤ x2L2 then (
  jl_chk (jl_isB (0 : Int32)) (some (.inr ((0 : Int32), ML2)))) else (
  jl_chk (jl_inb x2L2 4) (
  if (ML2 3 x2L2.toNatClampNeg) = 0 then (
  jl_lt (x2L2 + 1) (fun (x2_6 : Int32) =>
  some (.inl (x2_6, ML2)))) else (
  jl_bnd (jf_X5_isKnown x2L2 a1 ML2) (fun r_7 M_8 =>
  if r_7 = 0 then (
  jl_chk (jl_inb (((20 : Int32) * x2L2) + a1) 80) (
  jl_chk (jl_isB (1 : Int32)) (
  jl_lt (jl_st M_8 9 (((20 : Int32) * x2L2) + a1).toNatClampNeg (1 : Int32)) (fun (M_12 : jl_Mem) =>
  jl_lt (jl_st M_12 0 22 ((M_12 0 22) + (1 : Int32))) (fun (M_13 : jl_Mem) =>
  jl_chk (jl_inb x2L2 4) (
  jl_lt (jl_st M_13 0 23 ((M_13 0 23) + (M_13 3 x2L2.toNatClampNeg))) (fun (M_15 : jl_Mem) =>
  jl_bnd (jf_X5_looks M_15) (fun r_16 M_17 =>
  if r_16 = 0 then (
  jl_lt (x2L2 + 1) (fun (x2_20 : Int32) =>
  some (.inl (x2_20, M_17)))) else (
  jl_chk (jl_isB (1 : Int32)) (some (.inr ((1 : Int32), M_17)))))))))))) else (
  jl_lt (x2L2 + 1) (fun (x2_23 : Int32) =>
  some (.inl (x2_23, M_8))))))))

noncomputable def jf_X5_looksUp (a1 : Int32) (M : jl_Mem) : Option (Int32 × jl_Mem) :=
  jl_lt (0 : Int32) (fun (x2_1 : Int32) =>
  jl_wh (fun q => jf_X5_looksUp_L2 a1 q.1 q.2) jl_F (x2_1, M))

noncomputable def jf_X5_isSeen_L2 (a1 : Int32) (x2L2 : Int32) (ML2 : jl_Mem) : Option ((Int32 × jl_Mem) ⊕ (Int32 × jl_Mem)) :=
  if (ML2 0 2) ≤ x2L2 then (
  jl_chk (jl_isB (0 : Int32)) (some (.inr ((0 : Int32), ML2)))) else (
  jl_chk (jl_inb (((20 : Int32) * x2L2) + a1) 80) (
  if (ML2 4 (((20 : Int32) * x2L2) + a1).toNatClampNeg) ≤ 0 then (
  jl_lt (x2L2 + 1) (fun (x2_6 : Int32) =>
  some (.inl (x2_6, ML2)))) else (
  jl_bnd (jf_X5_placeOf x2L2 a1 ML2) (fun r_7 M_8 =>
  jl_chk (jl_inb x2L2 4) (
  if (M_8 8 x2L2.toNatClampNeg) ≤ r_7 then (
  jl_lt (x2L2 + 1) (fun (x2_12 : Int32) =>
  some (.inl (x2_12, M_8)))) else (
  jl_chk (jl_isB (1 : Int32)) (some (.inr ((1 : Int32), M_8)))))))))

noncomputable def jf_X5_isSeen (a1 : Int32) (M : jl_Mem) : Option (Int32 × jl_Mem) :=
  jl_lt (0 : Int32) (fun (x2_1 : Int32) =>
  jl_wh (fun q => jf_X5_isSeen_L2 a1 q.1 q.2) jl_F (x2_1, M))

noncomputable def jf_X5_isOpen_L2 (a1 : Int32) (x2L2 : Int32) (ML2 : jl_Mem) : Option ((Int32 × jl_Mem) ⊕ (Int32 × jl_Mem)) :=
  if (ML2 0 2) ≤ x2L2 then (
  jl_chk (jl_isB (0 : Int32)) (some (.inr ((0 : Int32), ML2)))) else (
  jl_chk (jl_inb x2L2 4) (
  if (ML2 3 x2L2.toNatClampNeg) ≤ 0 then (
  jl_lt (x2L2 + 1) (fun (x2_6 : Int32) =>
  some (.inl (x2_6, ML2)))) else (
  jl_bnd (jf_X5_isKnown x2L2 a1 ML2) (fun r_7 M_8 =>
  if r_7 = 0 then (
  jl_chk (jl_isB (1 : Int32)) (some (.inr ((1 : Int32), M_8)))) else (
  jl_lt (x2L2 + 1) (fun (x2_11 : Int32) =>
  some (.inl (x2_11, M_8))))))))

noncomputable def jf_X5_isOpen (a1 : Int32) (M : jl_Mem) : Option (Int32 × jl_Mem) :=
  jl_lt (0 : Int32) (fun (x2_1 : Int32) =>
  jl_wh (fun q => jf_X5_isOpen_L2 a1 q.1 q.2) jl_F (x2_1, M))

noncomputable def jf_X5_works_L145 (x1L145 : Int32) (x2L145 : Int32) (ML145 : jl_Mem) : Option ((Int32 × Int32 × jl_Mem) ⊕ ((Int32 × jl_Mem) ⊕ (Int32 × jl_Mem))) :=
  if (ML145 0 1) ≤ x2L145 then (
  if x1L145 = (-1 : Int32) then (
  some (.inr (.inr (0, ML145)))) else (
  jl_bnd (jf_X5_looksUp x1L145 ML145) (fun r_10 M_11 =>
  if r_10 = 0 then (
  some (.inr (.inr (0, M_11)))) else (
  some (.inr (.inr (0, M_11))))))) else (
  jl_bnd (jf_X5_isSeen x2L145 ML145) (fun r_14 M_15 =>
  if r_14 = 0 then (
  jl_lt (x2L145 + 1) (fun (x2_18 : Int32) =>
  some (.inl (x1L145, x2_18, M_15)))) else (
  jl_bnd (jf_X5_isOpen x2L145 M_15) (fun r_19 M_20 =>
  if r_19 = 0 then (
  jl_lt (x2L145 + 1) (fun (x2_23 : Int32) =>
  some (.inl (x1L145, x2_23, M_20)))) else (
  if x1L145 = (-1 : Int32) then (
  jl_lt x2L145 (fun (x1_25 : Int32) =>
  jl_lt (x2L145 + 1) (fun (x2_26 : Int32) =>
  some (.inl (x1_25, x2_26, M_20))))) else (
  jl_bnd (jf_X5_boundOf x2L145 (1 : Int32) M_20) (fun r_27 M_28 =>
  jl_bnd (jf_X5_boundOf x1L145 (1 : Int32) M_28) (fun r_30 M_31 =>
  if r_27 ≤ r_30 then (
  jl_lt (x2L145 + 1) (fun (x2_34 : Int32) =>
  some (.inl (x1L145, x2_34, M_31)))) else (
  jl_lt x2L145 (fun (x1_35 : Int32) =>
  jl_lt (x2L145 + 1) (fun (x2_36 : Int32) =>
  some (.inl (x1_35, x2_36, M_31)))))))))))))

noncomputable def jf_X5_works_L12 (x1L12 : Int32) (ML12 : jl_Mem) : Option ((Int32 × jl_Mem) ⊕ (Int32 × jl_Mem)) :=
  if (ML12 0 2) ≤ x1L12 then (
  if (ML12 0 17) < (2 : Int32) then (
  some (.inr (0, ML12))) else (
  jl_chk (jl_nz (ML12 0 19)) (
  if ((ML12 0 20) - (ML12 0 20) / (ML12 0 19) * (ML12 0 19)) = 0 then (
  jl_lt (-1 : Int32) (fun (x1_6 : Int32) =>
  jl_lt (0 : Int32) (fun (x2_7 : Int32) =>
  jl_wh (fun q => jf_X5_works_L145 q.1 q.2.1 q.2.2) jl_F (x1_6, x2_7, ML12)))) else (
  some (.inr (0, ML12)))))) else (
  jl_chk (jl_inb x1L12 4) (
  jl_chk (jl_inb x1L12 4) (
  if (ML12 8 x1L12.toNatClampNeg) = (ML12 6 x1L12.toNatClampNeg) then (
  jl_lt (x1L12 + 1) (fun (x1_61 : Int32) =>
  some (.inl (x1_61, ML12)))) else (
  jl_chk (jl_inb x1L12 4) (
  jl_chk (jl_inb (((20 : Int32) * x1L12) + (ML12 8 x1L12.toNatClampNeg)) 80) (
  jl_lt (ML12 5 (((20 : Int32) * x1L12) + (ML12 8 x1L12.toNatClampNeg)).toNatClampNeg) (fun (x2_43 : Int32) =>
  jl_chk (jl_inb x1L12 4) (
  jl_chk (jl_inb x1L12 4) (
  jl_lt (jl_st ML12 8 x1L12.toNatClampNeg ((ML12 8 x1L12.toNatClampNeg) + (1 : Int32))) (fun (M_46 : jl_Mem) =>
  jl_lt (jl_st M_46 0 21 ((M_46 0 21) + (1 : Int32))) (fun (M_47 : jl_Mem) =>
  jl_chk (jl_inb x1L12 4) (
  jl_lt (jl_st M_47 0 23 ((M_47 0 23) + (M_47 2 x1L12.toNatClampNeg))) (fun (M_49 : jl_Mem) =>
  jl_bnd (jf_X5_looks M_49) (fun r_50 M_51 =>
  if r_50 = 0 then (
  if (M_51 0 17) = (1 : Int32) then (
  jl_bnd (jf_X5_looksUp x2_43 M_51) (fun r_56 M_57 =>
  if r_56 = 0 then (
  jl_lt (x1L12 + 1) (fun (x1_60 : Int32) =>
  some (.inl (x1_60, M_57)))) else (
  some (.inr (0, M_57))))) else (
  jl_lt (x1L12 + 1) (fun (x1_55 : Int32) =>
  some (.inl (x1_55, M_51))))) else (
  some (.inr (0, M_51)))))))))))))))))

noncomputable def jf_X5_works (M : jl_Mem) : Option (Int32 × jl_Mem) :=
  jl_lt (jl_st M 0 20 ((M 0 20) + (1 : Int32))) (fun (M_1 : jl_Mem) =>
  jl_lt (0 : Int32) (fun (x1_2 : Int32) =>
  jl_wh (fun q => jf_X5_works_L12 q.1 q.2) jl_F (x1_2, M_1)))

noncomputable def jf_X5_round (M : jl_Mem) : Option (Int32 × jl_Mem) :=
  if (M 0 16) = 0 then (
  some ((-1 : Int32), M)) else (
  if (M 0 24) = 0 then (
  jl_bnd (jf_X5_works M) (fun r_3 M_4 =>
  if (M_4 0 24) = 0 then (
  some ((0 : Int32), M_4)) else (
  some ((1 : Int32), M_4)))) else (
  some ((-3 : Int32), M)))

noncomputable def jf_X5_finish_L24 (x1_3 : Int32) (ML24 : jl_Mem) : Option ((jl_Mem) ⊕ (Int32 × jl_Mem)) :=
  if (ML24 0 24) = 0 then (
  jl_bnd (jf_X5_works ML24) (fun r_5 M_6 =>
  some (.inl M_6))) else (
  some (.inr (((ML24 0 20) - x1_3), ML24)))

noncomputable def jf_X5_finish (M : jl_Mem) : Option (Int32 × jl_Mem) :=
  if (M 0 16) = 0 then (
  some ((-1 : Int32), M)) else (
  if (M 0 24) = 0 then (
  jl_lt (M 0 20) (fun (x1_3 : Int32) =>
  jl_wh (fun q => jf_X5_finish_L24 x1_3 q) jl_F M)) else (
  some ((-3 : Int32), M)))

noncomputable def jf_X5_reader_L123 (x2L105 : Int32) (x3L105 : Int32) (x4L123 : Int32) (x5L123 : Int32) (ML123 : jl_Mem) : Option ((Int32 × Int32 × jl_Mem) ⊕ ((Int32 × Int32 × jl_Mem) ⊕ (Int32 × jl_Mem))) :=
  if (ML123 0 2) ≤ x5L123 then (
  if x4L123 = 0 then (
  jl_lt (x2L105 + (0 : Int32)) (fun (x2_21 : Int32) =>
  jl_lt (x3L105 + 1) (fun (x3_22 : Int32) =>
  some (.inr (.inl (x2_21, x3_22, ML123)))))) else (
  jl_lt (x2L105 + (1 : Int32)) (fun (x2_23 : Int32) =>
  jl_lt (x3L105 + 1) (fun (x3_24 : Int32) =>
  some (.inr (.inl (x2_23, x3_24, ML123))))))) else (
  if x4L123 = 0 then (
  jl_chk (jl_inb (((20 : Int32) * x5L123) + x3L105) 80) (
  if (ML123 9 (((20 : Int32) * x5L123) + x3L105).toNatClampNeg) = 0 then (
  jl_lt (0 : Int32) (fun (x4_30 : Int32) =>
  jl_lt (x5L123 + 1) (fun (x5_31 : Int32) =>
  some (.inl (x4_30, x5_31, ML123))))) else (
  jl_lt (1 : Int32) (fun (x4_32 : Int32) =>
  jl_lt (x5L123 + 1) (fun (x5_33 : Int32) =>
  some (.inl (x4_32, x5_33, ML123))))))) else (
  jl_lt (1 : Int32) (fun (x4_26 : Int32) =>
  jl_lt (x5L123 + 1) (fun (x5_27 : Int32) =>
  some (.inl (x4_26, x5_27, ML123))))))

noncomputable def jf_X5_reader_L105 (x2L105 : Int32) (x3L105 : Int32) (ML105 : jl_Mem) : Option ((Int32 × Int32 × jl_Mem) ⊕ (Int32 × jl_Mem)) :=
  if (ML105 0 1) ≤ x3L105 then (
  some (.inr (x2L105, ML105))) else (
  jl_bnd (jf_X5_isSeen x3L105 ML105) (fun r_14 M_15 =>
  jl_lt r_14 (fun (x4_17 : Int32) =>
  jl_lt (0 : Int32) (fun (x5_18 : Int32) =>
  jl_wh (fun q => jf_X5_reader_L123 x2L105 x3L105 q.1 q.2.1 q.2.2) jl_F (x4_17, x5_18, M_15)))))

noncomputable def jf_X5_reader (a1 : Int32) (M : jl_Mem) : Option (Int32 × jl_Mem) :=
  if (M 0 16) = 0 then (
  some ((-1 : Int32), M)) else (
  jl_lt (0 : Int32) (fun (x2_2 : Int32) =>
  if a1 = 0 then (
  some ((M 0 17), M)) else (
  if a1 = 1 then (
  some ((M 0 18), M)) else (
  if a1 = 2 then (
  some ((M 0 20), M)) else (
  if a1 = 3 then (
  some ((M 0 21), M)) else (
  if a1 = 4 then (
  some ((M 0 22), M)) else (
  if a1 = 5 then (
  some ((M 0 23), M)) else (
  if a1 = 6 then (
  if (M 0 24) = 0 then (
  some ((0 : Int32), M)) else (
  some ((1 : Int32), M))) else (
  if a1 = 7 then (
  jl_lt (0 : Int32) (fun (x3_12 : Int32) =>
  jl_wh (fun q => jf_X5_reader_L105 q.1 q.2.1 q.2.2) jl_F (x2_2, x3_12, M))) else (
  some ((-1 : Int32), M)))))))))))

noncomputable def jf_X5_depth (a1 : Int32) (a2 : Int32) (M : jl_Mem) : Option (Int32 × jl_Mem) :=
  if (M 0 16) = 0 then (
  some ((-1 : Int32), M)) else (
  jl_bnd (jf_X5_isList a1 M) (fun r_2 M_3 =>
  if r_2 = 0 then (
  some ((-1 : Int32), M_3)) else (
  if a2 = 0 then (
  jl_chk (jl_inb a1 4) (
  some ((M_3 8 a1.toNatClampNeg), M_3))) else (
  if a2 = (1 : Int32) then (
  jl_bnd (jf_X5_topOf a1 M_3) (fun r_8 M_9 =>
  some (r_8, M_9))) else (
  some ((-1 : Int32), M_3))))))

noncomputable def jf_X5_known (a1 : Int32) (a2 : Int32) (M : jl_Mem) : Option (Int32 × jl_Mem) :=
  if (M 0 16) = 0 then (
  some ((-1 : Int32), M)) else (
  jl_bnd (jf_X5_isList a1 M) (fun r_2 M_3 =>
  if r_2 = 0 then (
  some ((-1 : Int32), M_3)) else (
  jl_bnd (jf_X5_isThing a2 M_3) (fun r_6 M_7 =>
  if r_6 = 0 then (
  some ((-1 : Int32), M_7)) else (
  jl_bnd (jf_X5_isKnown a1 a2 M_7) (fun r_10 M_11 =>
  if r_10 = 0 then (
  some ((0 : Int32), M_11)) else (
  some ((1 : Int32), M_11))))))))

noncomputable def jf_X5_bound (a1 : Int32) (a2 : Int32) (M : jl_Mem) : Option (Int32 × jl_Mem) :=
  if (M 0 16) = 0 then (
  some ((-1 : Int32), M)) else (
  jl_bnd (jf_X5_isThing a1 M) (fun r_2 M_3 =>
  if r_2 = 0 then (
  some ((-1 : Int32), M_3)) else (
  jl_bnd (jf_X5_in a2 (0 : Int32) (1 : Int32) M_3) (fun r_6 M_7 =>
  if r_6 = 0 then (
  some ((-2 : Int32), M_7)) else (
  if a2 = (1 : Int32) then (
  jl_bnd (jf_X5_boundOf a1 (1 : Int32) M_7) (fun r_14 M_15 =>
  some (r_14, M_15))) else (
  jl_bnd (jf_X5_boundOf a1 (0 : Int32) M_7) (fun r_11 M_12 =>
  some (r_11, M_12))))))))

noncomputable def jf_X5_ahead (a1 : Int32) (a2 : Int32) (M : jl_Mem) : Option (Int32 × jl_Mem) :=
  if (M 0 16) = 0 then (
  some ((-1 : Int32), M)) else (
  jl_bnd (jf_X5_isThing a1 M) (fun r_2 M_3 =>
  if r_2 = 0 then (
  some ((-1 : Int32), M_3)) else (
  jl_bnd (jf_X5_isThing a2 M_3) (fun r_6 M_7 =>
  if r_6 = 0 then (
  some ((-1 : Int32), M_7)) else (
  if a1 = a2 then (
  some ((-2 : Int32), M_7)) else (
  jl_bnd (jf_X5_isAhead a1 a2 M_7) (fun r_11 M_12 =>
  if r_11 = 0 then (
  some ((0 : Int32), M_12)) else (
  some ((1 : Int32), M_12)))))))))

noncomputable def jf_X5_found_L37 (a1 : Int32) (x2L37 : Int32) (x3L37 : Int32) (ML37 : jl_Mem) : Option ((Int32 × Int32 × jl_Mem) ⊕ (Int32 × jl_Mem)) :=
  if (ML37 0 1) ≤ x3L37 then (
  some (.inr ((-1 : Int32), ML37))) else (
  jl_chk (jl_inb x3L37 20) (
  if (ML37 13 x3L37.toNatClampNeg) = 0 then (
  jl_lt (x3L37 + 1) (fun (x3_15 : Int32) =>
  some (.inl (x2L37, x3_15, ML37)))) else (
  if x2L37 = a1 then (
  some (.inr (x3L37, ML37))) else (
  jl_lt (x2L37 + 1) (fun (x2_13 : Int32) =>
  jl_lt (x3L37 + 1) (fun (x3_14 : Int32) =>
  some (.inl (x2_13, x3_14, ML37))))))))

noncomputable def jf_X5_found (a1 : Int32) (M : jl_Mem) : Option (Int32 × jl_Mem) :=
  if (M 0 16) = 0 then (
  some ((-1 : Int32), M)) else (
  jl_bnd (jf_X5_in a1 (0 : Int32) ((M 0 18) - (1 : Int32)) M) (fun r_2 M_3 =>
  if r_2 = 0 then (
  some ((-1 : Int32), M_3)) else (
  if (M_3 0 24) = 0 then (
  some ((-3 : Int32), M_3)) else (
  jl_lt (0 : Int32) (fun (x2_7 : Int32) =>
  jl_lt (0 : Int32) (fun (x3_8 : Int32) =>
  jl_wh (fun q => jf_X5_found_L37 a1 q.1 q.2.1 q.2.2) jl_F (x2_7, x3_8, M_3)))))))

noncomputable def jf_X5_aside_L27 (x1L27 : Int32) (ML27 : jl_Mem) : Option ((Int32 × jl_Mem) ⊕ ((Int32 × jl_Mem) ⊕ (Int32 × jl_Mem))) :=
  if (80 : Int32) ≤ x1L27 then (
  jl_bnd (jf_X5_clear ML27) (fun r_5 M_6 =>
  some (.inr (.inr (0, M_6))))) else (
  jl_chk (jl_inb x1L27 80) (
  jl_chk (jl_inb x1L27 80) (
  jl_chk (jl_isB (ML27 9 x1L27.toNatClampNeg)) (
  jl_lt (jl_st ML27 15 x1L27.toNatClampNeg (ML27 9 x1L27.toNatClampNeg)) (fun (M_10 : jl_Mem) =>
  jl_lt (x1L27 + 1) (fun (x1_11 : Int32) =>
  some (.inl (x1_11, M_10))))))))

noncomputable def jf_X5_aside_L2 (x1L2 : Int32) (ML2 : jl_Mem) : Option ((Int32 × jl_Mem) ⊕ (Int32 × jl_Mem)) :=
  if (4 : Int32) ≤ x1L2 then (
  jl_lt (0 : Int32) (fun (x1_3 : Int32) =>
  jl_wh (fun q => jf_X5_aside_L27 q.1 q.2) jl_F (x1_3, ML2))) else (
  jl_chk (jl_inb x1L2 4) (
  jl_chk (jl_inb x1L2 4) (
  jl_lt (jl_st ML2 14 x1L2.toNatClampNeg (ML2 8 x1L2.toNatClampNeg)) (fun (M_15 : jl_Mem) =>
  jl_lt (x1L2 + 1) (fun (x1_16 : Int32) =>
  some (.inl (x1_16, M_15)))))))

noncomputable def jf_X5_aside (M : jl_Mem) : Option (Int32 × jl_Mem) :=
  jl_lt (0 : Int32) (fun (x1_1 : Int32) =>
  jl_wh (fun q => jf_X5_aside_L2 q.1 q.2) jl_F (x1_1, M))

noncomputable def jf_X5_again_L27 (x1L27 : Int32) (ML27 : jl_Mem) : Option ((Int32 × jl_Mem) ⊕ ((Int32 × jl_Mem) ⊕ (Int32 × jl_Mem))) :=
  if (80 : Int32) ≤ x1L27 then (
  some (.inr (.inr (0, ML27)))) else (
  jl_chk (jl_inb x1L27 80) (
  jl_chk (jl_inb x1L27 80) (
  jl_chk (jl_isB (ML27 15 x1L27.toNatClampNeg)) (
  jl_lt (jl_st ML27 9 x1L27.toNatClampNeg (ML27 15 x1L27.toNatClampNeg)) (fun (M_7 : jl_Mem) =>
  jl_lt (x1L27 + 1) (fun (x1_8 : Int32) =>
  some (.inl (x1_8, M_7))))))))

noncomputable def jf_X5_again_L2 (x1L2 : Int32) (ML2 : jl_Mem) : Option ((Int32 × jl_Mem) ⊕ (Int32 × jl_Mem)) :=
  if (4 : Int32) ≤ x1L2 then (
  jl_lt (0 : Int32) (fun (x1_3 : Int32) =>
  jl_wh (fun q => jf_X5_again_L27 q.1 q.2) jl_F (x1_3, ML2))) else (
  jl_chk (jl_inb x1L2 4) (
  jl_chk (jl_inb x1L2 4) (
  jl_lt (jl_st ML2 8 x1L2.toNatClampNeg (ML2 14 x1L2.toNatClampNeg)) (fun (M_12 : jl_Mem) =>
  jl_lt (x1L2 + 1) (fun (x1_13 : Int32) =>
  some (.inl (x1_13, M_12)))))))

noncomputable def jf_X5_again (M : jl_Mem) : Option (Int32 × jl_Mem) :=
  jl_lt (0 : Int32) (fun (x1_1 : Int32) =>
  jl_wh (fun q => jf_X5_again_L2 q.1 q.2) jl_F (x1_1, M))

noncomputable def jf_X5_mayBe (a1 : Int32) (a2 : Int32) (M : jl_Mem) : Option (Int32 × jl_Mem) :=
  if (M 0 2) ≤ a1 then (
  jl_bnd (jf_X5_in a2 (0 : Int32) (0 : Int32) M) (fun r_2 M_3 =>
  jl_chk (jl_isB r_2) (some (r_2, M_3)))) else (
  jl_chk (jl_inb a1 4) (
  jl_bnd (jf_X5_in a2 (0 : Int32) (M 6 a1.toNatClampNeg) M) (fun r_7 M_8 =>
  jl_chk (jl_isB r_7) (some (r_7, M_8)))))

noncomputable def jf_X5_enough (a1 : Int32) (a2 : Int32) (a3 : Int32) (a4 : Int32) (a5 : Int32) (M : jl_Mem) : Option (Int32 × jl_Mem) :=
  jl_bnd (jf_X5_in a1 (1 : Int32) (M 0 1) M) (fun r_1 M_2 =>
  if r_1 = 0 then (
  some ((-2 : Int32), M_2)) else (
  jl_bnd (jf_X5_mayBe (0 : Int32) a2 M_2) (fun r_5 M_6 =>
  if r_5 = 0 then (
  some ((-2 : Int32), M_6)) else (
  jl_bnd (jf_X5_mayBe (1 : Int32) a3 M_6) (fun r_9 M_10 =>
  if r_9 = 0 then (
  some ((-2 : Int32), M_10)) else (
  jl_bnd (jf_X5_mayBe (2 : Int32) a4 M_10) (fun r_13 M_14 =>
  if r_13 = 0 then (
  some ((-2 : Int32), M_14)) else (
  jl_bnd (jf_X5_mayBe (3 : Int32) a5 M_14) (fun r_17 M_18 =>
  if r_17 = 0 then (
  some ((-2 : Int32), M_18)) else (
  jl_bnd (jf_X5_aside M_18) (fun r_21 M_22 =>
  jl_chk (jl_inb (0 : Int32) 4) (
  jl_lt (jl_st M_22 8 (0 : Int32).toNatClampNeg a2) (fun (M_25 : jl_Mem) =>
  jl_chk (jl_inb (1 : Int32) 4) (
  jl_lt (jl_st M_25 8 (1 : Int32).toNatClampNeg a3) (fun (M_27 : jl_Mem) =>
  jl_chk (jl_inb (2 : Int32) 4) (
  jl_lt (jl_st M_27 8 (2 : Int32).toNatClampNeg a4) (fun (M_29 : jl_Mem) =>
  jl_chk (jl_inb (3 : Int32) 4) (
  jl_lt (jl_st M_29 8 (3 : Int32).toNatClampNeg a5) (fun (M_31 : jl_Mem) =>
  jl_bnd (jf_X5_isSure a1 M_31) (fun r_32 M_33 =>
  jl_lt r_32 (fun (x6_35 : Int32) =>
  jl_bnd (jf_X5_again M_33) (fun r_36 M_37 =>
  if x6_35 = 0 then (
  some ((0 : Int32), M_37)) else (
  some ((1 : Int32), M_37))))))))))))))))))))))))

noncomputable def jf_X5_next_L7 (x1L7 : Int32) (ML7 : jl_Mem) : Option ((Int32 × jl_Mem) ⊕ (Int32 × jl_Mem)) :=
  if x1L7 < 0 then (
  jl_chk (jl_isB (0 : Int32)) (some (.inr ((0 : Int32), ML7)))) else (
  jl_chk (jl_inb x1L7 4) (
  jl_chk (jl_inb x1L7 4) (
  if (ML7 6 x1L7.toNatClampNeg) ≤ (ML7 8 x1L7.toNatClampNeg) then (
  jl_chk (jl_inb x1L7 4) (
  jl_lt (jl_st ML7 8 x1L7.toNatClampNeg (0 : Int32)) (fun (M_8 : jl_Mem) =>
  jl_lt (x1L7 + (-1)) (fun (x1_9 : Int32) =>
  some (.inl (x1_9, M_8)))))) else (
  jl_chk (jl_inb x1L7 4) (
  jl_chk (jl_inb x1L7 4) (
  jl_lt (jl_st ML7 8 x1L7.toNatClampNeg ((ML7 8 x1L7.toNatClampNeg) + (1 : Int32))) (fun (M_12 : jl_Mem) =>
  jl_chk (jl_isB (1 : Int32)) (some (.inr ((1 : Int32), M_12))))))))))

noncomputable def jf_X5_next (M : jl_Mem) : Option (Int32 × jl_Mem) :=
  jl_lt ((M 0 2) - (1 : Int32)) (fun (x1_1 : Int32) =>
  jl_wh (fun q => jf_X5_next_L7 q.1 q.2) jl_F (x1_1, M))

noncomputable def jf_X5_least_L134 (a1 : Int32) (x3_30 : Int32) (x6L134 : Int32) (ML134 : jl_Mem) : Option ((Int32 × jl_Mem) ⊕ ((Int32 × Int32 × jl_Mem) ⊕ ((Int32 × Int32 × jl_Mem) ⊕ ((Int32 × Int32 × jl_Mem) ⊕ (Int32 × jl_Mem))))) :=
  if (4 : Int32) ≤ x6L134 then (
  jl_bnd (jf_X5_next ML134) (fun r_33 M_34 =>
  jl_lt r_33 (fun (x4_36 : Int32) =>
  some (.inr (.inr (.inl (x3_30, x4_36, M_34))))))) else (
  jl_chk (jl_inb x6L134 4) (
  jl_chk (jl_inb x6L134 4) (
  jl_lt (jl_st ML134 16 x6L134.toNatClampNeg (ML134 8 x6L134.toNatClampNeg)) (fun (M_39 : jl_Mem) =>
  jl_lt (x6L134 + 1) (fun (x6_40 : Int32) =>
  some (.inl (x6_40, M_39)))))))

noncomputable def jf_X5_least_L134 (a1 : Int32) (x3_54 : Int32) (x6L134 : Int32) (ML134 : jl_Mem) : Option ((Int32 × jl_Mem) ⊕ ((Int32 × Int32 × jl_Mem) ⊕ ((Int32 × Int32 × jl_Mem) ⊕ ((Int32 × Int32 × jl_Mem) ⊕ (Int32 × jl_Mem))))) :=
  if (4 : Int32) ≤ x6L134 then (
  jl_bnd (jf_X5_next ML134) (fun r_57 M_58 =>
  jl_lt r_57 (fun (x4_60 : Int32) =>
  some (.inr (.inr (.inl (x3_54, x4_60, M_58))))))) else (
  jl_chk (jl_inb x6L134 4) (
  jl_chk (jl_inb x6L134 4) (
  jl_lt (jl_st ML134 16 x6L134.toNatClampNeg (ML134 8 x6L134.toNatClampNeg)) (fun (M_63 : jl_Mem) =>
  jl_lt (x6L134 + 1) (fun (x6_64 : Int32) =>
  some (.inl (x6_64, M_63)))))))

noncomputable def jf_X5_least_L74 (a1 : Int32) (x3L63 : Int32) (x5L74 : Int32) (x6L74 : Int32) (ML74 : jl_Mem) : Option ((Int32 × Int32 × jl_Mem) ⊕ ((Int32 × Int32 × jl_Mem) ⊕ ((Int32 × Int32 × jl_Mem) ⊕ (Int32 × jl_Mem)))) :=
  if (ML74 0 2) ≤ x6L74 then (
  if x3L63 = (-1 : Int32) then (
  jl_bnd (jf_X5_isSure a1 ML74) (fun r_22 M_23 =>
  if r_22 = 0 then (
  jl_bnd (jf_X5_next M_23) (fun r_26 M_27 =>
  jl_lt r_26 (fun (x4_29 : Int32) =>
  some (.inr (.inl (x3L63, x4_29, M_27)))))) else (
  jl_lt x5L74 (fun (x3_30 : Int32) =>
  jl_lt (0 : Int32) (fun (x6_31 : Int32) =>
  jl_wh (fun q => jf_X5_least_L134 a1 x3_30 q.1 q.2) jl_F (x6_31, M_23)))))) else (
  if x3L63 ≤ x5L74 then (
  jl_bnd (jf_X5_next ML74) (fun r_42 M_43 =>
  jl_lt r_42 (fun (x4_45 : Int32) =>
  some (.inr (.inl (x3L63, x4_45, M_43)))))) else (
  jl_bnd (jf_X5_isSure a1 ML74) (fun r_46 M_47 =>
  if r_46 = 0 then (
  jl_bnd (jf_X5_next M_47) (fun r_50 M_51 =>
  jl_lt r_50 (fun (x4_53 : Int32) =>
  some (.inr (.inl (x3L63, x4_53, M_51)))))) else (
  jl_lt x5L74 (fun (x3_54 : Int32) =>
  jl_lt (0 : Int32) (fun (x6_55 : Int32) =>
  jl_wh (fun q => jf_X5_least_L134 a1 x3_54 q.1 q.2) jl_F (x6_55, M_47)))))))) else (
  jl_chk (jl_inb x6L74 4) (
  jl_chk (jl_inb x6L74 4) (
  jl_lt (x5L74 + ((ML74 2 x6L74.toNatClampNeg) * (ML74 8 x6L74.toNatClampNeg))) (fun (x5_67 : Int32) =>
  jl_lt (x6L74 + 1) (fun (x6_68 : Int32) =>
  some (.inl (x5_67, x6_68, ML74)))))))

noncomputable def jf_X5_least_L63 (a1 : Int32) (x3L63 : Int32) (x4L63 : Int32) (ML63 : jl_Mem) : Option ((Int32 × Int32 × jl_Mem) ⊕ ((Int32 × Int32 × jl_Mem) ⊕ (Int32 × jl_Mem))) :=
  if x4L63 = 0 then (
  jl_bnd (jf_X5_again ML63) (fun r_15 M_16 =>
  some (.inr (.inr (x3L63, M_16))))) else (
  jl_lt (0 : Int32) (fun (x5_18 : Int32) =>
  jl_lt (0 : Int32) (fun (x6_19 : Int32) =>
  jl_wh (fun q => jf_X5_least_L74 a1 x3L63 q.1 q.2.1 q.2.2) jl_F (x5_18, x6_19, ML63))))

noncomputable def jf_X5_least_L19 (a1 : Int32) (x2L19 : Int32) (x3L19 : Int32) (ML19 : jl_Mem) : Option ((Int32 × Int32 × jl_Mem) ⊕ (Int32 × jl_Mem)) :=
  if (ML19 0 2) ≤ x3L19 then (
  if x2L19 ≤ (500 : Int32) then (
  jl_bnd (jf_X5_aside ML19) (fun r_9 M_10 =>
  jl_lt (-1 : Int32) (fun (x3_12 : Int32) =>
  jl_lt (1 : Int32) (fun (x4_13 : Int32) =>
  jl_wh (fun q => jf_X5_least_L63 a1 q.1 q.2.1 q.2.2) jl_F (x3_12, x4_13, M_10))))) else (
  some (.inr ((-3 : Int32), ML19)))) else (
  jl_chk (jl_inb x3L19 4) (
  jl_lt (x2L19 * ((ML19 6 x3L19.toNatClampNeg) + (1 : Int32))) (fun (x2_70 : Int32) =>
  jl_lt (x3L19 + 1) (fun (x3_71 : Int32) =>
  some (.inl (x2_70, x3_71, ML19))))))

noncomputable def jf_X5_least (a1 : Int32) (M : jl_Mem) : Option (Int32 × jl_Mem) :=
  jl_bnd (jf_X5_in a1 (1 : Int32) (M 0 1) M) (fun r_1 M_2 =>
  if r_1 = 0 then (
  some ((-2 : Int32), M_2)) else (
  jl_lt (1 : Int32) (fun (x2_5 : Int32) =>
  jl_lt (0 : Int32) (fun (x3_6 : Int32) =>
  jl_wh (fun q => jf_X5_least_L19 a1 q.1 q.2.1 q.2.2) jl_F (x2_5, x3_6, M_2)))))

noncomputable def jf_X5_leastDepth (a1 : Int32) (M : jl_Mem) : Option (Int32 × jl_Mem) :=
  jl_bnd (jf_X5_in a1 (0 : Int32) (3 : Int32) M) (fun r_1 M_2 =>
  if r_1 = 0 then (
  some ((-1 : Int32), M_2)) else (
  jl_chk (jl_inb a1 4) (
  some ((M_2 16 a1.toNatClampNeg), M_2))))

noncomputable def jf_X5_count_L48 (x2L48 : Int32) (x3L48 : Int32) (ML48 : jl_Mem) : Option ((Int32 × Int32 × jl_Mem) ⊕ (Int32 × jl_Mem)) :=
  if (ML48 0 2) ≤ x3L48 then (
  some (.inr (x2L48, ML48))) else (
  jl_chk (jl_inb x3L48 4) (
  jl_lt (x2L48 + (ML48 6 x3L48.toNatClampNeg)) (fun (x2_8 : Int32) =>
  jl_lt (x3L48 + 1) (fun (x3_9 : Int32) =>
  some (.inl (x2_8, x3_9, ML48))))))

noncomputable def jf_X5_count (a1 : Int32) (M : jl_Mem) : Option (Int32 × jl_Mem) :=
  jl_lt (0 : Int32) (fun (x2_1 : Int32) =>
  if a1 = 0 then (
  some ((M 0 1), M)) else (
  if a1 = 1 then (
  some ((M 0 2), M)) else (
  if a1 = 2 then (
  jl_lt (0 : Int32) (fun (x3_5 : Int32) =>
  jl_wh (fun q => jf_X5_count_L48 q.1 q.2.1 q.2.2) jl_F (x2_1, x3_5, M))) else (
  if a1 = 3 then (
  some ((M 0 3), M)) else (
  if a1 = 4 then (
  if (M 0 16) = 0 then (
  some ((0 : Int32), M)) else (
  some ((1 : Int32), M))) else (
  some ((-1 : Int32), M)))))))
