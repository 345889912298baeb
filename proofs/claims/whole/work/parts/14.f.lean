noncomputable def jf_X4_within (a1 : Int32) (a2 : Int32) (a3 : Int32) (M : jl_Mem) : Option (Int32 × jl_Mem) :=
  if a1 < a2 then (
  some ((0 : Int32), M)) else (
  if a3 < a1 then (
  some ((0 : Int32), M)) else (
  some ((1 : Int32), M)))

noncomputable def jf_X0_hasThing (a1 : Int32) (M : jl_Mem) : Option (Int32 × jl_Mem) :=
  jl_bnd (jf_X4_within a1 (0 : Int32) ((M 1 0) - (1 : Int32)) M) (fun r_8 M_8 =>
  jl_chk (jl_isB r_8) (
  some (r_8, M_8)))

noncomputable def jf_X0_hasList (a1 : Int32) (M : jl_Mem) : Option (Int32 × jl_Mem) :=
  jl_bnd (jf_X4_within a1 (0 : Int32) ((M 1 1) - (1 : Int32)) M) (fun r_8 M_8 =>
  jl_chk (jl_isB r_8) (
  some (r_8, M_8)))

noncomputable def jf_X0_mayAskFor (a1 : Int32) (M : jl_Mem) : Option (Int32 × jl_Mem) :=
  jl_bnd (jf_X4_within a1 (1 : Int32) (M 1 0) M) (fun r_6 M_6 =>
  jl_chk (jl_isB r_6) (
  some (r_6, M_6)))

noncomputable def jf_X0_isDepth (a1 : Int32) (a2 : Int32) (M : jl_Mem) : Option (Int32 × jl_Mem) :=
  jl_bnd (jf_X0_hasList a1 M) (fun r_4 M_4 =>
  if r_4 = 0 then (
  jl_bnd (jf_X4_within a2 (0 : Int32) (0 : Int32) M_4) (fun r_20 M_20 =>
  jl_chk (jl_isB r_20) (
  some (r_20, M_20)))) else (
  jl_chk (jl_inb a1 4) (
  jl_bnd (jf_X4_within a2 (0 : Int32) (M_4 5 a1.toNatClampNeg) M_4) (fun r_20 M_20 =>
  jl_chk (jl_isB r_20) (
  some (r_20, M_20))))))

noncomputable def jf_X0_depthRows_L4 (x1L4 : Int32) (x2L4 : Int32) (ML4 : jl_Mem) : Option ((Int32 × Int32 × jl_Mem) ⊕ (Int32 × jl_Mem)) :=
  if (ML4 1 1) ≤ x2L4 then (
  jl_ex (
  some (x1L4, ML4))) else (
  jl_chk (jl_inb x2L4 4) (
  jl_lt (x1L4 * ((ML4 5 x2L4.toNatClampNeg) + (1 : Int32))) (fun (x1_22 : Int32) =>
  jl_lt (x2L4 + 1) (fun (x2_23 : Int32) =>
  some (.inl (x1_22, x2_23, ML4))))))

noncomputable def jf_X0_depthRows (M : jl_Mem) : Option (Int32 × jl_Mem) :=
  jl_lt (1 : Int32) (fun (x1_1 : Int32) =>
  jl_lt (0 : Int32) (fun (x2_3 : Int32) =>
  jl_wh (fun q => jf_X0_depthRows_L4 q.1 q.2.1 q.2.2) jl_F (x1_1, x2_3, M)))

noncomputable def jf_X0_addList (a1 : Int32) (a2 : Int32) (a3 : Int32) (M : jl_Mem) : Option (Int32 × jl_Mem) :=
  jl_lt (M 1 1) (fun (x4_4 : Int32) =>
  jl_chk (jl_inb x4_4 4) (
  jl_lt (jl_st M 2 x4_4.toNatClampNeg a1) (fun (M_13 : jl_Mem) =>
  jl_lt (jl_st M_13 3 x4_4.toNatClampNeg a2) (fun (M_21 : jl_Mem) =>
  jl_lt (jl_st M_21 4 x4_4.toNatClampNeg a3) (fun (M_29 : jl_Mem) =>
  jl_lt (jl_st M_29 1 1 ((M_29 1 1) + (1 : Int32))) (fun (M_37 : jl_Mem) =>
  some (x4_4, M_37)))))))

noncomputable def jf_X4_yes (a1 : Int32) (M : jl_Mem) : Option (Int32 × jl_Mem) :=
  if a1 = 0 then (
  some ((0 : Int32), M)) else (
  some ((1 : Int32), M))

noncomputable def jf_X4_comesFirst (a1 : Int32) (a2 : Int32) (a3 : Int32) (a4 : Int32) (M : jl_Mem) : Option (Int32 × jl_Mem) :=
  if a4 < a2 then (
  some ((1 : Int32), M)) else (
  if a2 = a4 then (
  if a3 ≤ a1 then (
  some ((0 : Int32), M)) else (
  some ((1 : Int32), M))) else (
  some ((0 : Int32), M)))

noncomputable def jf_X0_rankOf_L5 (a1 : Int32) (a2 : Nat) (x3L5 : Int32) (x4L5 : Int32) (ML5 : jl_Mem) : Option ((Int32 × Int32 × jl_Mem) ⊕ (Int32 × jl_Mem)) :=
  if (ML5 1 0) ≤ x4L5 then (
  jl_ex (
  some (x3L5, ML5))) else (
  jl_chk (jl_inb x4L5 (jx_len a2)) (
  jl_chk (jl_inb a1 (jx_len a2)) (
  jl_bnd (jf_X4_comesFirst x4L5 (ML5 a2 x4L5.toNatClampNeg) a1 (ML5 a2 a1.toNatClampNeg) ML5) (fun r_24 M_24 =>
  if r_24 = 0 then (
  jl_lt (x4L5 + 1) (fun (x4_33 : Int32) =>
  some (.inl (x3L5, x4_33, M_24)))) else (
  jl_lt (x3L5 + 1) (fun (x3_30 : Int32) =>
  jl_lt (x4L5 + 1) (fun (x4_33 : Int32) =>
  some (.inl (x3_30, x4_33, M_24)))))))))

noncomputable def jf_X0_rankOf (a1 : Int32) (a2 : Nat) (M : jl_Mem) : Option (Int32 × jl_Mem) :=
  jl_lt (0 : Int32) (fun (x3_1 : Int32) =>
  jl_lt (0 : Int32) (fun (x4_3 : Int32) =>
  jl_wh (fun q => jf_X0_rankOf_L5 a1 a2 q.1 q.2.1 q.2.2) jl_F (x3_1, x4_3, M)))

noncomputable def jf_X0_orderRow_L9 (a1 : Int32) (x3L9 : Int32) (ML9 : jl_Mem) : Option ((Int32 × jl_Mem) ⊕ (Int32 × jl_Mem)) :=
  if (ML9 1 0) ≤ x3L9 then (
  jl_ex (
  some (0, ML9))) else (
  jl_chk (jl_inb x3L9 20) (
  if (ML9 (7 + a1.toNatClampNeg) x3L9.toNatClampNeg) = 0 then (
  jl_lt (x3L9 + 1) (fun (x3_51 : Int32) =>
  some (.inl (x3_51, ML9)))) else (
  jl_bnd (jf_X0_rankOf x3L9 (7 + a1.toNatClampNeg) ML9) (fun r_26 M_26 =>
  jl_lt r_26 (fun (x4_29 : Int32) =>
  jl_lt (jl_st M_26 (17 + a1.toNatClampNeg) x3L9.toNatClampNeg x4_29) (fun (M_40 : jl_Mem) =>
  jl_chk (jl_inb x4_29 20) (
  jl_lt (jl_st M_40 (12 + a1.toNatClampNeg) x4_29.toNatClampNeg x3L9) (fun (M_50 : jl_Mem) =>
  jl_lt (x3L9 + 1) (fun (x3_51 : Int32) =>
  some (.inl (x3_51, M_50)))))))))))

noncomputable def jf_X0_orderRow (a1 : Int32) (M : jl_Mem) : Option (Int32 × jl_Mem) :=
  jl_chk (jl_inb a1 4) (
  jl_lt (0 : Int32) (fun (x3_8 : Int32) =>
  jl_wh (fun q => jf_X0_orderRow_L9 a1 q.1 q.2) jl_F (x3_8, M)))

noncomputable def jf_X0_setMark (a1 : Int32) (a2 : Int32) (a3 : Int32) (M : jl_Mem) : Option (Int32 × jl_Mem) :=
  if a3 = 0 then (
  jl_bnd (jf_X4_yes (0 : Int32) M) (fun r_9 M_9 =>
  jl_chk (jl_inb a1 4) (
  jl_chk (jl_inb a2 20) (
  if (M_9 (7 + a1.toNatClampNeg) a2.toNatClampNeg) = 0 then (
  jl_bnd (jf_X4_yes (0 : Int32) M_9) (fun r_28 M_28 =>
  jl_lt (r_9 - r_28) (fun (x4_32 : Int32) =>
  jl_lt (jl_st M_28 (7 + a1.toNatClampNeg) a2.toNatClampNeg a3) (fun (M_42 : jl_Mem) =>
  jl_lt (jl_st M_42 5 a1.toNatClampNeg ((M_42 5 a1.toNatClampNeg) + x4_32)) (fun (M_53 : jl_Mem) =>
  jl_lt (jl_st M_53 1 2 ((M_53 1 2) + x4_32)) (fun (M_62 : jl_Mem) =>
  jl_bnd (jf_X0_orderRow a1 M_62) (fun r_67 M_67 =>
  some (0, M_67)))))))) else (
  jl_bnd (jf_X4_yes (1 : Int32) M_9) (fun r_28 M_28 =>
  jl_lt (r_9 - r_28) (fun (x4_32 : Int32) =>
  jl_lt (jl_st M_28 (7 + a1.toNatClampNeg) a2.toNatClampNeg a3) (fun (M_42 : jl_Mem) =>
  jl_lt (jl_st M_42 5 a1.toNatClampNeg ((M_42 5 a1.toNatClampNeg) + x4_32)) (fun (M_53 : jl_Mem) =>
  jl_lt (jl_st M_53 1 2 ((M_53 1 2) + x4_32)) (fun (M_62 : jl_Mem) =>
  jl_bnd (jf_X0_orderRow a1 M_62) (fun r_67 M_67 =>
  some (0, M_67)))))))))))) else (
  jl_bnd (jf_X4_yes (1 : Int32) M) (fun r_9 M_9 =>
  jl_chk (jl_inb a1 4) (
  jl_chk (jl_inb a2 20) (
  if (M_9 (7 + a1.toNatClampNeg) a2.toNatClampNeg) = 0 then (
  jl_bnd (jf_X4_yes (0 : Int32) M_9) (fun r_28 M_28 =>
  jl_lt (r_9 - r_28) (fun (x4_32 : Int32) =>
  jl_lt (jl_st M_28 (7 + a1.toNatClampNeg) a2.toNatClampNeg a3) (fun (M_42 : jl_Mem) =>
  jl_lt (jl_st M_42 5 a1.toNatClampNeg ((M_42 5 a1.toNatClampNeg) + x4_32)) (fun (M_53 : jl_Mem) =>
  jl_lt (jl_st M_53 1 2 ((M_53 1 2) + x4_32)) (fun (M_62 : jl_Mem) =>
  jl_bnd (jf_X0_orderRow a1 M_62) (fun r_67 M_67 =>
  some (0, M_67)))))))) else (
  jl_bnd (jf_X4_yes (1 : Int32) M_9) (fun r_28 M_28 =>
  jl_lt (r_9 - r_28) (fun (x4_32 : Int32) =>
  jl_lt (jl_st M_28 (7 + a1.toNatClampNeg) a2.toNatClampNeg a3) (fun (M_42 : jl_Mem) =>
  jl_lt (jl_st M_42 5 a1.toNatClampNeg ((M_42 5 a1.toNatClampNeg) + x4_32)) (fun (M_53 : jl_Mem) =>
  jl_lt (jl_st M_53 1 2 ((M_53 1 2) + x4_32)) (fun (M_62 : jl_Mem) =>
  jl_bnd (jf_X0_orderRow a1 M_62) (fun r_67 M_67 =>
  some (0, M_67))))))))))))

noncomputable def jf_X0_combined_L13 (a1 : Nat) (x2L13 : Int32) (x3L13 : Int32) (x4L13 : Int32) (x5L13 : Int32) (x6L13 : Int32) (ML13 : jl_Mem) : Option ((Int32 × Int32 × Int32 × Int32 × Int32 × jl_Mem) ⊕ (Int32 × jl_Mem)) :=
  if (ML13 1 1) ≤ x6L13 then (
  jl_ex (
  if (ML13 1 3) = 0 then (
  some (x3L13, ML13)) else (
  if (ML13 1 3) = (1 : Int32) then (
  some (x4L13, ML13)) else (
  some (x5L13, ML13))))) else (
  jl_chk (jl_inb x6L13 4) (
  if (ML13 2 x6L13.toNatClampNeg) ≤ 0 then (
  jl_lt (x6L13 + 1) (fun (x6_82 : Int32) =>
  some (.inl (x2L13, x3L13, x4L13, x5L13, x6_82, ML13)))) else (
  jl_chk (jl_inb x6L13 (jx_len a1)) (
  jl_lt (x3L13 + ((ML13 2 x6L13.toNatClampNeg) * (ML13 a1 x6L13.toNatClampNeg))) (fun (x3_46 : Int32) =>
  if x2L13 = 0 then (
  jl_lt (ML13 a1 x6L13.toNatClampNeg) (fun (x4_67 : Int32) =>
  jl_lt (if x5L13 < (ML13 a1 x6L13.toNatClampNeg) then (ML13 a1 x6L13.toNatClampNeg) else x5L13) (fun (x5_78 : Int32) =>
  jl_lt (1 : Int32) (fun (x2_81 : Int32) =>
  jl_lt (x6L13 + 1) (fun (x6_82 : Int32) =>
  some (.inl (x2_81, x3_46, x4_67, x5_78, x6_82, ML13))))))) else (
  jl_lt (if (ML13 a1 x6L13.toNatClampNeg) < x4L13 then (ML13 a1 x6L13.toNatClampNeg) else x4L13) (fun (x4_67 : Int32) =>
  jl_lt (if x5L13 < (ML13 a1 x6L13.toNatClampNeg) then (ML13 a1 x6L13.toNatClampNeg) else x5L13) (fun (x5_78 : Int32) =>
  jl_lt (1 : Int32) (fun (x2_81 : Int32) =>
  jl_lt (x6L13 + 1) (fun (x6_82 : Int32) =>
  some (.inl (x2_81, x3_46, x4_67, x5_78, x6_82, ML13))))))))))))

noncomputable def jf_X0_combined (a1 : Nat) (M : jl_Mem) : Option (Int32 × jl_Mem) :=
  jl_lt (0 : Int32) (fun (x2_1 : Int32) =>
  jl_lt (0 : Int32) (fun (x3_3 : Int32) =>
  jl_lt (0 : Int32) (fun (x4_5 : Int32) =>
  jl_lt (0 : Int32) (fun (x5_8 : Int32) =>
  jl_lt (0 : Int32) (fun (x6_11 : Int32) =>
  jl_wh (fun q => jf_X0_combined_L13 a1 q.1 q.2.1 q.2.2.1 q.2.2.2.1 q.2.2.2.2.1 q.2.2.2.2.2) jl_F (x2_1, x3_3, x4_5, x5_8, x6_11, M))))))

noncomputable def jf_X0_totalOf_L2 (a1 : Int32) (x2L2 : Int32) (ML2 : jl_Mem) : Option ((Int32 × jl_Mem) ⊕ (Int32 × jl_Mem)) :=
  if (ML2 1 1) ≤ x2L2 then (
  jl_ex (
  jl_bnd (jf_X0_combined 21 ML2) (fun r_35 M_35 =>
  some (r_35, M_35)))) else (
  jl_chk (jl_inb x2L2 4) (
  jl_chk (jl_inb a1 20) (
  jl_lt (jl_st ML2 21 x2L2.toNatClampNeg (ML2 (7 + x2L2.toNatClampNeg) a1.toNatClampNeg)) (fun (M_23 : jl_Mem) =>
  jl_lt (x2L2 + 1) (fun (x2_24 : Int32) =>
  some (.inl (x2_24, M_23)))))))

noncomputable def jf_X0_totalOf (a1 : Int32) (M : jl_Mem) : Option (Int32 × jl_Mem) :=
  jl_lt (0 : Int32) (fun (x2_1 : Int32) =>
  jl_wh (fun q => jf_X0_totalOf_L2 a1 q.1 q.2) jl_F (x2_1, M))

noncomputable def jf_X0_bestAt_L29 (a1 : Int32) (x2L29 : Int32) (ML29 : jl_Mem) : Option ((Int32 × jl_Mem) ⊕ (Int32 × jl_Mem)) :=
  if (ML29 1 0) ≤ x2L29 then (
  jl_ex (
  some ((-1 : Int32), ML29))) else (
  jl_bnd (jf_X0_rankOf x2L29 22 ML29) (fun r_43 M_43 =>
  if r_43 = a1 then (
  jl_ex (
  some (x2L29, M_43))) else (
  jl_lt (x2L29 + 1) (fun (x2_52 : Int32) =>
  some (.inl (x2_52, M_43))))))

noncomputable def jf_X0_bestAt_L2 (a1 : Int32) (x2L2 : Int32) (ML2 : jl_Mem) : Option ((Int32 × jl_Mem) ⊕ (Int32 × jl_Mem)) :=
  if (ML2 1 0) ≤ x2L2 then (
  jl_ex (
  jl_lt (0 : Int32) (fun (x2_28 : Int32) =>
  jl_wh (fun q => jf_X0_bestAt_L29 a1 q.1 q.2) jl_F (x2_28, ML2)))) else (
  jl_bnd (jf_X0_totalOf x2L2 ML2) (fun r_17 M_17 =>
  jl_chk (jl_inb x2L2 20) (
  jl_lt (jl_st M_17 22 x2L2.toNatClampNeg r_17) (fun (M_20 : jl_Mem) =>
  jl_lt (x2L2 + 1) (fun (x2_21 : Int32) =>
  some (.inl (x2_21, M_20)))))))

noncomputable def jf_X0_bestAt (a1 : Int32) (M : jl_Mem) : Option (Int32 × jl_Mem) :=
  jl_lt (0 : Int32) (fun (x2_1 : Int32) =>
  jl_wh (fun q => jf_X0_bestAt_L2 a1 q.1 q.2) jl_F (x2_1, M))

noncomputable def jf_X2_forget_L2 (ts : Nat) (x1L2 : Int32) (ML2 : jl_Mem) : Option ((Int32 × jl_Mem) ⊕ (Int32 × jl_Mem)) :=
  if (4 : Int32) ≤ x1L2 then (
  jl_ex (
  some (0, ML2))) else (
  jl_chk (jl_inb x1L2 4) (
  jl_lt (jl_st ML2 (ts + 1) x1L2.toNatClampNeg (0 : Int32)) (fun (M_13 : jl_Mem) =>
  jl_lt (jl_st M_13 (ts + 2) x1L2.toNatClampNeg (0 : Int32)) (fun (M_20 : jl_Mem) =>
  jl_lt (x1L2 + 1) (fun (x1_21 : Int32) =>
  some (.inl (x1_21, M_20)))))))

noncomputable def jf_X2_forget (ts : Nat) (M : jl_Mem) : Option (Int32 × jl_Mem) :=
  jl_lt (0 : Int32) (fun (x1_1 : Int32) =>
  jl_wh (fun q => jf_X2_forget_L2 ts q.1 q.2) jl_F (x1_1, M))

noncomputable def jf_X2_isWhole (ts : Nat) (a1 : Int32) (M : jl_Mem) : Option (Int32 × jl_Mem) :=
  jl_chk (jl_inb a1 4) (
  if (M (ts + 1) a1.toNatClampNeg) < (M 5 a1.toNatClampNeg) then (
  some ((0 : Int32), M)) else (
  some ((1 : Int32), M)))

noncomputable def jf_X2_isAtSeenPlace (ts : Nat) (a1 : Int32) (a2 : Int32) (M : jl_Mem) : Option (Int32 × jl_Mem) :=
  jl_chk (jl_inb a1 4) (
  jl_chk (jl_inb a2 20) (
  if (M (7 + a1.toNatClampNeg) a2.toNatClampNeg) = 0 then (
  some ((0 : Int32), M)) else (
  if (M (ts + 1) a1.toNatClampNeg) ≤ (M (17 + a1.toNatClampNeg) a2.toNatClampNeg) then (
  some ((0 : Int32), M)) else (
  some ((1 : Int32), M)))))

noncomputable def jf_X2_isKnown (ts : Nat) (a1 : Int32) (a2 : Int32) (M : jl_Mem) : Option (Int32 × jl_Mem) :=
  jl_bnd (jf_X2_isWhole ts a1 M) (fun r_2 M_2 =>
  if r_2 = 0 then (
  jl_bnd (jf_X2_isAtSeenPlace ts a1 a2 M_2) (fun r_11 M_11 =>
  if r_11 = 0 then (
  jl_chk (jl_inb a1 4) (
  if (((M_11 (ts + 2) a1.toNatClampNeg) >>> (a2 &&& 31)) &&& (1 : Int32)) = (1 : Int32) then (
  some ((1 : Int32), M_11)) else (
  some ((0 : Int32), M_11)))) else (
  some ((1 : Int32), M_11)))) else (
  some ((1 : Int32), M_2)))

noncomputable def jf_X2_lowOf_L2 (ts : Nat) (a1 : Int32) (x2L2 : Int32) (ML2 : jl_Mem) : Option ((Int32 × jl_Mem) ⊕ (Int32 × jl_Mem)) :=
  if (ML2 1 1) ≤ x2L2 then (
  jl_ex (
  jl_bnd (jf_X0_combined (ts + 3) ML2) (fun r_57 M_57 =>
  some (r_57, M_57)))) else (
  jl_bnd (jf_X2_isKnown ts x2L2 a1 ML2) (fun r_21 M_21 =>
  if r_21 = 0 then (
  jl_chk (jl_inb x2L2 4) (
  jl_lt (jl_st M_21 (ts + 3) x2L2.toNatClampNeg (0 : Int32)) (fun (M_42 : jl_Mem) =>
  jl_lt (x2L2 + 1) (fun (x2_43 : Int32) =>
  some (.inl (x2_43, M_42)))))) else (
  jl_chk (jl_inb x2L2 4) (
  jl_chk (jl_inb a1 20) (
  jl_lt (jl_st M_21 (ts + 3) x2L2.toNatClampNeg (M_21 (7 + x2L2.toNatClampNeg) a1.toNatClampNeg)) (fun (M_42 : jl_Mem) =>
  jl_lt (x2L2 + 1) (fun (x2_43 : Int32) =>
  some (.inl (x2_43, M_42)))))))))

noncomputable def jf_X2_lowOf (ts : Nat) (a1 : Int32) (M : jl_Mem) : Option (Int32 × jl_Mem) :=
  jl_lt (0 : Int32) (fun (x2_1 : Int32) =>
  jl_wh (fun q => jf_X2_lowOf_L2 ts a1 q.1 q.2) jl_F (x2_1, M))

noncomputable def jf_X2_isFound (ts : Nat) (a1 : Int32) (M : jl_Mem) : Option (Int32 × jl_Mem) :=
  if (((M ts 5) >>> (a1 &&& 31)) &&& (1 : Int32)) = (1 : Int32) then (
  some ((1 : Int32), M)) else (
  some ((0 : Int32), M))

noncomputable def jf_X2_firstLeftByLow_L4 (ts : Nat) (x1L4 : Int32) (x2L4 : Int32) (ML4 : jl_Mem) : Option ((Int32 × Int32 × jl_Mem) ⊕ (Int32 × jl_Mem)) :=
  if (ML4 1 0) ≤ x2L4 then (
  jl_ex (
  some (x1L4, ML4))) else (
  jl_bnd (jf_X2_isFound ts x2L4 ML4) (fun r_17 M_17 =>
  if r_17 = 0 then (
  if x1L4 = (-1 : Int32) then (
  jl_lt x2L4 (fun (x1_44 : Int32) =>
  jl_lt (x2L4 + 1) (fun (x2_45 : Int32) =>
  some (.inl (x1_44, x2_45, M_17))))) else (
  jl_chk (jl_inb x2L4 20) (
  jl_chk (jl_inb x1L4 20) (
  if (M_17 (ts + 4) x2L4.toNatClampNeg) ≤ (M_17 (ts + 4) x1L4.toNatClampNeg) then (
  jl_lt (x2L4 + 1) (fun (x2_45 : Int32) =>
  some (.inl (x1L4, x2_45, M_17)))) else (
  jl_lt x2L4 (fun (x1_44 : Int32) =>
  jl_lt (x2L4 + 1) (fun (x2_45 : Int32) =>
  some (.inl (x1_44, x2_45, M_17))))))))) else (
  jl_lt (x2L4 + 1) (fun (x2_45 : Int32) =>
  some (.inl (x1L4, x2_45, M_17))))))

noncomputable def jf_X2_firstLeftByLow (ts : Nat) (M : jl_Mem) : Option (Int32 × jl_Mem) :=
  jl_lt (-1 : Int32) (fun (x1_1 : Int32) =>
  jl_lt (0 : Int32) (fun (x2_3 : Int32) =>
  jl_wh (fun q => jf_X2_firstLeftByLow_L4 ts q.1 q.2.1 q.2.2) jl_F (x1_1, x2_3, M)))

noncomputable def jf_X2_chooseByLow_L9 (ts : Nat) (a1 : Int32) (x2L9 : Int32) (x3L9 : Int32) (ML9 : jl_Mem) : Option ((Int32 × Int32 × jl_Mem) ⊕ (Int32 × jl_Mem)) :=
  if (if (ML9 1 0) < a1 then (ML9 1 0) else a1) ≤ x3L9 then (
  jl_ex (
  some (x2L9, ML9))) else (
  jl_bnd (jf_X2_firstLeftByLow ts ML9) (fun r_25 M_25 =>
  jl_lt r_25 (fun (x2_28 : Int32) =>
  jl_lt (jl_st M_25 ts 5 ((M_25 ts 5) ||| ((1 : Int32) <<< (x2_28 &&& 31)))) (fun (M_38 : jl_Mem) =>
  jl_lt (x3L9 + 1) (fun (x3_41 : Int32) =>
  some (.inl (x2_28, x3_41, M_38)))))))

noncomputable def jf_X2_chooseByLow (ts : Nat) (a1 : Int32) (M : jl_Mem) : Option (Int32 × jl_Mem) :=
  jl_lt (jl_st M ts 5 (0 : Int32)) (fun (M_2 : jl_Mem) =>
  jl_lt (-1 : Int32) (fun (x2_6 : Int32) =>
  jl_lt (0 : Int32) (fun (x3_8 : Int32) =>
  jl_wh (fun q => jf_X2_chooseByLow_L9 ts a1 q.1 q.2.1 q.2.2) jl_F (x2_6, x3_8, M_2))))

noncomputable def jf_X2_topOf (ts : Nat) (a1 : Int32) (M : jl_Mem) : Option (Int32 × jl_Mem) :=
  jl_bnd (jf_X2_isWhole ts a1 M) (fun r_2 M_2 =>
  if r_2 = 0 then (
  jl_chk (jl_inb a1 4) (
  jl_lt (M_2 (ts + 1) a1.toNatClampNeg) (fun (x2_16 : Int32) =>
  if x2_16 = 0 then (
  some ((1000 : Int32), M_2)) else (
  jl_chk (jl_inb (x2_16 - (1 : Int32)) 20) (
  jl_chk (jl_inb (M_2 (12 + a1.toNatClampNeg) (x2_16 - (1 : Int32)).toNatClampNeg) 20) (
  some ((M_2 (7 + a1.toNatClampNeg) (M_2 (12 + a1.toNatClampNeg) (x2_16 - (1 : Int32)).toNatClampNeg).toNatClampNeg), M_2))))))) else (
  some ((0 : Int32), M_2)))

noncomputable def jf_X2_highOf_L2 (ts : Nat) (a1 : Int32) (x2L2 : Int32) (ML2 : jl_Mem) : Option ((Int32 × jl_Mem) ⊕ (Int32 × jl_Mem)) :=
  if (ML2 1 1) ≤ x2L2 then (
  jl_ex (
  jl_bnd (jf_X0_combined (ts + 3) ML2) (fun r_61 M_61 =>
  some (r_61, M_61)))) else (
  jl_bnd (jf_X2_isKnown ts x2L2 a1 ML2) (fun r_21 M_21 =>
  if r_21 = 0 then (
  jl_bnd (jf_X2_topOf ts x2L2 M_21) (fun r_43 M_43 =>
  jl_chk (jl_inb x2L2 4) (
  jl_lt (jl_st M_43 (ts + 3) x2L2.toNatClampNeg r_43) (fun (M_46 : jl_Mem) =>
  jl_lt (x2L2 + 1) (fun (x2_47 : Int32) =>
  some (.inl (x2_47, M_46))))))) else (
  jl_chk (jl_inb x2L2 4) (
  jl_chk (jl_inb a1 20) (
  jl_lt (jl_st M_21 (ts + 3) x2L2.toNatClampNeg (M_21 (7 + x2L2.toNatClampNeg) a1.toNatClampNeg)) (fun (M_46 : jl_Mem) =>
  jl_lt (x2L2 + 1) (fun (x2_47 : Int32) =>
  some (.inl (x2_47, M_46)))))))))

noncomputable def jf_X2_highOf (ts : Nat) (a1 : Int32) (M : jl_Mem) : Option (Int32 × jl_Mem) :=
  jl_lt (0 : Int32) (fun (x2_1 : Int32) =>
  jl_wh (fun q => jf_X2_highOf_L2 ts a1 q.1 q.2) jl_F (x2_1, M))

noncomputable def jf_X2_isSure_L45 (ts : Nat) (x2_35 : Int32) (x3L45 : Int32) (ML45 : jl_Mem) : Option ((Int32 × jl_Mem) ⊕ (Int32 × jl_Mem)) :=
  if (ML45 1 0) ≤ x3L45 then (
  jl_ex (
  some ((1 : Int32), ML45))) else (
  jl_bnd (jf_X2_isFound ts x3L45 ML45) (fun r_58 M_58 =>
  if r_58 = 0 then (
  jl_chk (jl_inb x2_35 20) (
  jl_bnd (jf_X2_highOf ts x3L45 M_58) (fun r_74 M_74 =>
  jl_bnd (jf_X4_comesFirst x2_35 (M_58 (ts + 4) x2_35.toNatClampNeg) x3L45 r_74 M_74) (fun r_77 M_77 =>
  if r_77 = 0 then (
  jl_ex (
  some ((0 : Int32), M_77))) else (
  jl_lt (x3L45 + 1) (fun (x3_85 : Int32) =>
  some (.inl (x3_85, M_77)))))))) else (
  jl_lt (x3L45 + 1) (fun (x3_85 : Int32) =>
  some (.inl (x3_85, M_58))))))

noncomputable def jf_X2_isSure_L2 (ts : Nat) (a1 : Int32) (x2L2 : Int32) (ML2 : jl_Mem) : Option ((Int32 × jl_Mem) ⊕ (Int32 × jl_Mem)) :=
  if (ML2 1 0) ≤ x2L2 then (
  jl_ex (
  jl_bnd (jf_X2_chooseByLow ts a1 ML2) (fun r_32 M_32 =>
  jl_lt r_32 (fun (x2_35 : Int32) =>
  if x2_35 = (-1 : Int32) then (
  some ((0 : Int32), M_32)) else (
  jl_lt (0 : Int32) (fun (x3_44 : Int32) =>
  jl_wh (fun q => jf_X2_isSure_L45 ts x2_35 q.1 q.2) jl_F (x3_44, M_32))))))) else (
  jl_bnd (jf_X2_lowOf ts x2L2 ML2) (fun r_20 M_20 =>
  jl_chk (jl_inb x2L2 20) (
  jl_lt (jl_st M_20 (ts + 4) x2L2.toNatClampNeg r_20) (fun (M_23 : jl_Mem) =>
  jl_lt (x2L2 + 1) (fun (x2_24 : Int32) =>
  some (.inl (x2_24, M_23)))))))

noncomputable def jf_X2_isSure (ts : Nat) (a1 : Int32) (M : jl_Mem) : Option (Int32 × jl_Mem) :=
  jl_lt (0 : Int32) (fun (x2_1 : Int32) =>
  jl_wh (fun q => jf_X2_isSure_L2 ts a1 q.1 q.2) jl_F (x2_1, M))

noncomputable def jf_X1_start (a1 : Int32) (a2 : Int32) (a3 : Int32) (M : jl_Mem) : Option (Int32 × jl_Mem) :=
  jl_lt (jl_st M 23 2 (1 : Int32)) (fun (M_2 : jl_Mem) =>
  jl_lt (jl_st M_2 23 4 a1) (fun (M_7 : jl_Mem) =>
  jl_lt (jl_st M_7 23 5 a2) (fun (M_12 : jl_Mem) =>
  jl_lt (jl_st M_12 23 6 a3) (fun (M_17 : jl_Mem) =>
  jl_lt (jl_st M_17 23 7 (0 : Int32)) (fun (M_22 : jl_Mem) =>
  jl_lt (jl_st M_22 23 8 (0 : Int32)) (fun (M_27 : jl_Mem) =>
  jl_lt (jl_st M_27 23 9 (0 : Int32)) (fun (M_32 : jl_Mem) =>
  jl_bnd (jf_X2_forget 24 M_32) (fun r_39 M_39 =>
  jl_bnd (jf_X2_isSure 24 a2 M_39) (fun r_48 M_48 =>
  jl_chk (jl_isB r_48) (
  jl_lt (jl_st M_48 23 3 r_48) (fun (M_51 : jl_Mem) =>
  some (0, M_51))))))))))))

noncomputable def jf_X1_seeNextPlace (a1 : Int32) (M : jl_Mem) : Option (Int32 × jl_Mem) :=
  jl_chk (jl_inb a1 4) (
  jl_chk (jl_inb (M 25 a1.toNatClampNeg) 20) (
  jl_lt (M (12 + a1.toNatClampNeg) (M 25 a1.toNatClampNeg).toNatClampNeg) (fun (x2_19 : Int32) =>
  jl_lt (jl_st M 25 a1.toNatClampNeg ((M 25 a1.toNatClampNeg) + (1 : Int32))) (fun (M_32 : jl_Mem) =>
  jl_lt (jl_st M_32 23 9 ((M_32 23 9) + (M_32 3 a1.toNatClampNeg))) (fun (M_48 : jl_Mem) =>
  jl_bnd (jf_X2_isSure 24 (M_48 23 5) M_48) (fun r_60 M_60 =>
  jl_chk (jl_isB r_60) (
  jl_lt (jl_st M_60 23 3 r_60) (fun (M_63 : jl_Mem) =>
  some (x2_19, M_63)))))))))

noncomputable def jf_X2_mayBeLookedUp (ts : Nat) (a1 : Int32) (a2 : Int32) (M : jl_Mem) : Option (Int32 × jl_Mem) :=
  jl_chk (jl_inb a1 4) (
  if (M 4 a1.toNatClampNeg) ≤ 0 then (
  some ((0 : Int32), M)) else (
  jl_bnd (jf_X2_isKnown ts a1 a2 M) (fun r_15 M_15 =>
  if r_15 = 0 then (
  some ((1 : Int32), M_15)) else (
  some ((0 : Int32), M_15)))))

noncomputable def jf_X2_noteLookUp (ts : Nat) (a1 : Int32) (a2 : Int32) (M : jl_Mem) : Option (Int32 × jl_Mem) :=
  jl_chk (jl_inb a1 4) (
  jl_lt (jl_st M (ts + 2) a1.toNatClampNeg ((M (ts + 2) a1.toNatClampNeg) ||| ((1 : Int32) <<< (a2 &&& 31)))) (fun (M_11 : jl_Mem) =>
  some (0, M_11)))

noncomputable def jf_X1_lookUpEverywhere_L2 (a1 : Int32) (x2L2 : Int32) (ML2 : jl_Mem) : Option ((Int32 × jl_Mem) ⊕ (Int32 × jl_Mem)) :=
  if (ML2 1 1) ≤ x2L2 then (
  jl_ex (
  some (0, ML2))) else (
  if (ML2 23 3) = 0 then (
  jl_bnd (jf_X2_mayBeLookedUp 24 x2L2 a1 ML2) (fun r_26 M_26 =>
  if r_26 = 0 then (
  jl_lt (x2L2 + 1) (fun (x2_84 : Int32) =>
  some (.inl (x2_84, M_26)))) else (
  jl_bnd (jf_X2_noteLookUp 24 x2L2 a1 M_26) (fun r_38 M_38 =>
  jl_lt (jl_st M_38 23 8 ((M_38 23 8) + (1 : Int32))) (fun (M_48 : jl_Mem) =>
  jl_chk (jl_inb x2L2 4) (
  jl_lt (jl_st M_48 23 9 ((M_48 23 9) + (M_48 4 x2L2.toNatClampNeg))) (fun (M_66 : jl_Mem) =>
  jl_bnd (jf_X2_isSure 24 (M_66 23 5) M_66) (fun r_78 M_78 =>
  jl_chk (jl_isB r_78) (
  jl_lt (jl_st M_78 23 3 r_78) (fun (M_81 : jl_Mem) =>
  jl_lt (x2L2 + 1) (fun (x2_84 : Int32) =>
  some (.inl (x2_84, M_81))))))))))))) else (
  jl_ex (
  some (0, ML2))))

noncomputable def jf_X1_lookUpEverywhere (a1 : Int32) (M : jl_Mem) : Option (Int32 × jl_Mem) :=
  jl_lt (0 : Int32) (fun (x2_1 : Int32) =>
  jl_wh (fun q => jf_X1_lookUpEverywhere_L2 a1 q.1 q.2) jl_F (x2_1, M))

noncomputable def jf_X2_isSeen_L2 (ts : Nat) (a1 : Int32) (x2L2 : Int32) (ML2 : jl_Mem) : Option ((Int32 × jl_Mem) ⊕ (Int32 × jl_Mem)) :=
  if (ML2 1 1) ≤ x2L2 then (
  jl_ex (
  some ((0 : Int32), ML2))) else (
  jl_bnd (jf_X2_isAtSeenPlace ts x2L2 a1 ML2) (fun r_16 M_16 =>
  if r_16 = 0 then (
  jl_lt (x2L2 + 1) (fun (x2_24 : Int32) =>
  some (.inl (x2_24, M_16)))) else (
  jl_ex (
  some ((1 : Int32), M_16)))))

noncomputable def jf_X2_isSeen (ts : Nat) (a1 : Int32) (M : jl_Mem) : Option (Int32 × jl_Mem) :=
  jl_lt (0 : Int32) (fun (x2_1 : Int32) =>
  jl_wh (fun q => jf_X2_isSeen_L2 ts a1 q.1 q.2) jl_F (x2_1, M))

noncomputable def jf_X1_hasLookUpsLeft_L2 (a1 : Int32) (x2L2 : Int32) (ML2 : jl_Mem) : Option ((Int32 × jl_Mem) ⊕ (Int32 × jl_Mem)) :=
  if (ML2 1 1) ≤ x2L2 then (
  jl_ex (
  some ((0 : Int32), ML2))) else (
  jl_bnd (jf_X2_mayBeLookedUp 24 x2L2 a1 ML2) (fun r_19 M_19 =>
  if r_19 = 0 then (
  jl_lt (x2L2 + 1) (fun (x2_27 : Int32) =>
  some (.inl (x2_27, M_19)))) else (
  jl_ex (
  some ((1 : Int32), M_19)))))

noncomputable def jf_X1_hasLookUpsLeft (a1 : Int32) (M : jl_Mem) : Option (Int32 × jl_Mem) :=
  jl_lt (0 : Int32) (fun (x2_1 : Int32) =>
  jl_wh (fun q => jf_X1_hasLookUpsLeft_L2 a1 q.1 q.2) jl_F (x2_1, M))

noncomputable def jf_X1_mostPromising_L6 (x1L6 : Int32) (x2L6 : Int32) (x3L6 : Int32) (ML6 : jl_Mem) : Option ((Int32 × Int32 × Int32 × jl_Mem) ⊕ (Int32 × jl_Mem)) :=
  if (ML6 1 0) ≤ x3L6 then (
  jl_ex (
  some (x1L6, ML6))) else (
  jl_bnd (jf_X2_isSeen 24 x3L6 ML6) (fun r_22 M_22 =>
  if r_22 = 0 then (
  jl_lt (x3L6 + 1) (fun (x3_62 : Int32) =>
  some (.inl (x1L6, x2L6, x3_62, M_22)))) else (
  jl_bnd (jf_X1_hasLookUpsLeft x3L6 M_22) (fun r_30 M_30 =>
  if r_30 = 0 then (
  jl_lt (x3L6 + 1) (fun (x3_62 : Int32) =>
  some (.inl (x1L6, x2L6, x3_62, M_30)))) else (
  jl_bnd (jf_X2_highOf 24 x3L6 M_30) (fun r_41 M_41 =>
  jl_lt r_41 (fun (x4_44 : Int32) =>
  if x1L6 = (-1 : Int32) then (
  jl_lt x3L6 (fun (x1_58 : Int32) =>
  jl_lt x4_44 (fun (x2_61 : Int32) =>
  jl_lt (x3L6 + 1) (fun (x3_62 : Int32) =>
  some (.inl (x1_58, x2_61, x3_62, M_41)))))) else (
  if x4_44 ≤ x2L6 then (
  jl_lt (x3L6 + 1) (fun (x3_62 : Int32) =>
  some (.inl (x1L6, x2L6, x3_62, M_41)))) else (
  jl_lt x3L6 (fun (x1_58 : Int32) =>
  jl_lt x4_44 (fun (x2_61 : Int32) =>
  jl_lt (x3L6 + 1) (fun (x3_62 : Int32) =>
  some (.inl (x1_58, x2_61, x3_62, M_41))))))))))))))

noncomputable def jf_X1_mostPromising (M : jl_Mem) : Option (Int32 × jl_Mem) :=
  jl_lt (-1 : Int32) (fun (x1_1 : Int32) =>
  jl_lt (0 : Int32) (fun (x2_3 : Int32) =>
  jl_lt (0 : Int32) (fun (x3_5 : Int32) =>
  jl_wh (fun q => jf_X1_mostPromising_L6 q.1 q.2.1 q.2.2.1 q.2.2.2) jl_F (x1_1, x2_3, x3_5, M))))

noncomputable def jf_X1_workRound_L12 (x1L12 : Int32) (ML12 : jl_Mem) : Option ((Int32 × jl_Mem) ⊕ (Int32 × jl_Mem)) :=
  if (ML12 1 1) ≤ x1L12 then (
  jl_ex (
  if (ML12 23 4) = (2 : Int32) then (
  if (ML12 23 3) = 0 then (
  if (ML12 23 6) ≤ 0 then (
  some (0, ML12)) else (
  jl_chk (jl_nz (ML12 23 6)) (
  if ((ML12 23 7) - (ML12 23 7) / (ML12 23 6) * (ML12 23 6)) = 0 then (
  jl_bnd (jf_X1_mostPromising ML12) (fun r_101 M_101 =>
  jl_lt r_101 (fun (x1_104 : Int32) =>
  if x1_104 = (-1 : Int32) then (
  some (0, M_101)) else (
  jl_bnd (jf_X1_lookUpEverywhere x1_104 M_101) (fun r_112 M_112 =>
  some (0, M_112)))))) else (
  some (0, ML12))))) else (
  some (0, ML12))) else (
  some (0, ML12)))) else (
  if (ML12 23 3) = 0 then (
  jl_bnd (jf_X2_isWhole 24 x1L12 ML12) (fun r_35 M_35 =>
  if r_35 = 0 then (
  jl_bnd (jf_X1_seeNextPlace x1L12 M_35) (fun r_43 M_43 =>
  jl_lt r_43 (fun (x2_46 : Int32) =>
  if (M_43 23 4) = (1 : Int32) then (
  jl_bnd (jf_X1_lookUpEverywhere x2_46 M_43) (fun r_57 M_57 =>
  jl_lt (x1L12 + 1) (fun (x1_60 : Int32) =>
  some (.inl (x1_60, M_57))))) else (
  jl_lt (x1L12 + 1) (fun (x1_60 : Int32) =>
  some (.inl (x1_60, M_43))))))) else (
  jl_lt (x1L12 + 1) (fun (x1_60 : Int32) =>
  some (.inl (x1_60, M_35)))))) else (
  jl_ex (
  if (ML12 23 4) = (2 : Int32) then (
  if (ML12 23 3) = 0 then (
  if (ML12 23 6) ≤ 0 then (
  some (0, ML12)) else (
  jl_chk (jl_nz (ML12 23 6)) (
  if ((ML12 23 7) - (ML12 23 7) / (ML12 23 6) * (ML12 23 6)) = 0 then (
  jl_bnd (jf_X1_mostPromising ML12) (fun r_101 M_101 =>
  jl_lt r_101 (fun (x1_104 : Int32) =>
  if x1_104 = (-1 : Int32) then (
  some (0, M_101)) else (
  jl_bnd (jf_X1_lookUpEverywhere x1_104 M_101) (fun r_112 M_112 =>
  some (0, M_112)))))) else (
  some (0, ML12))))) else (
  some (0, ML12))) else (
  some (0, ML12)))))

noncomputable def jf_X1_workRound (M : jl_Mem) : Option (Int32 × jl_Mem) :=
  jl_lt (jl_st M 23 7 ((M 23 7) + (1 : Int32))) (fun (M_7 : jl_Mem) =>
  jl_lt (0 : Int32) (fun (x1_11 : Int32) =>
  jl_wh (fun q => jf_X1_workRound_L12 q.1 q.2) jl_F (x1_11, M_7)))

noncomputable def jf_X2_placesSeen_L4 (ts : Nat) (x1L4 : Int32) (x2L4 : Int32) (ML4 : jl_Mem) : Option ((Int32 × Int32 × jl_Mem) ⊕ (Int32 × jl_Mem)) :=
  if (ML4 1 1) ≤ x2L4 then (
  jl_ex (
  some (x1L4, ML4))) else (
  jl_chk (jl_inb x2L4 4) (
  jl_lt (x1L4 + (ML4 (ts + 1) x2L4.toNatClampNeg)) (fun (x1_23 : Int32) =>
  jl_lt (x2L4 + 1) (fun (x2_24 : Int32) =>
  some (.inl (x1_23, x2_24, ML4))))))

noncomputable def jf_X2_placesSeen (ts : Nat) (M : jl_Mem) : Option (Int32 × jl_Mem) :=
  jl_lt (0 : Int32) (fun (x1_1 : Int32) =>
  jl_lt (0 : Int32) (fun (x2_3 : Int32) =>
  jl_wh (fun q => jf_X2_placesSeen_L4 ts q.1 q.2.1 q.2.2) jl_F (x1_1, x2_3, M)))

noncomputable def jf_X2_thingsSeen_L4 (ts : Nat) (x1L4 : Int32) (x2L4 : Int32) (ML4 : jl_Mem) : Option ((Int32 × Int32 × jl_Mem) ⊕ (Int32 × jl_Mem)) :=
  if (ML4 1 0) ≤ x2L4 then (
  jl_ex (
  some (x1L4, ML4))) else (
  jl_bnd (jf_X2_isSeen ts x2L4 ML4) (fun r_18 M_18 =>
  jl_bnd (jf_X4_yes r_18 M_18) (fun r_21 M_21 =>
  jl_lt (x1L4 + r_21) (fun (x1_25 : Int32) =>
  jl_lt (x2L4 + 1) (fun (x2_26 : Int32) =>
  some (.inl (x1_25, x2_26, M_21)))))))

noncomputable def jf_X2_thingsSeen (ts : Nat) (M : jl_Mem) : Option (Int32 × jl_Mem) :=
  jl_lt (0 : Int32) (fun (x1_1 : Int32) =>
  jl_lt (0 : Int32) (fun (x2_3 : Int32) =>
  jl_wh (fun q => jf_X2_thingsSeen_L4 ts q.1 q.2.1 q.2.2) jl_F (x1_1, x2_3, M)))

noncomputable def jf_X2_foundAt_L4 (ts : Nat) (a1 : Int32) (x2L4 : Int32) (x3L4 : Int32) (ML4 : jl_Mem) : Option ((Int32 × Int32 × jl_Mem) ⊕ (Int32 × jl_Mem)) :=
  if (ML4 1 0) ≤ x3L4 then (
  jl_ex (
  some ((-1 : Int32), ML4))) else (
  jl_bnd (jf_X2_isFound ts x3L4 ML4) (fun r_17 M_17 =>
  if r_17 = 0 then (
  jl_lt (x3L4 + 1) (fun (x3_33 : Int32) =>
  some (.inl (x2L4, x3_33, M_17)))) else (
  if x2L4 = a1 then (
  jl_ex (
  some (x3L4, M_17))) else (
  jl_lt (x2L4 + 1) (fun (x2_30 : Int32) =>
  jl_lt (x3L4 + 1) (fun (x3_33 : Int32) =>
  some (.inl (x2_30, x3_33, M_17))))))))

noncomputable def jf_X2_foundAt (ts : Nat) (a1 : Int32) (M : jl_Mem) : Option (Int32 × jl_Mem) :=
  jl_lt (0 : Int32) (fun (x2_1 : Int32) =>
  jl_lt (0 : Int32) (fun (x3_3 : Int32) =>
  jl_wh (fun q => jf_X2_foundAt_L4 ts a1 q.1 q.2.1 q.2.2) jl_F (x2_1, x3_3, M)))

noncomputable def jf_X3_isEnough (a1 : Int32) (a2 : Int32) (a3 : Int32) (a4 : Int32) (a5 : Int32) (M : jl_Mem) : Option (Int32 × jl_Mem) :=
  jl_chk (jl_inb (0 : Int32) 4) (
  jl_lt (jl_st M 31 (0 : Int32).toNatClampNeg a2) (fun (M_9 : jl_Mem) =>
  jl_chk (jl_inb (1 : Int32) 4) (
  jl_lt (jl_st M_9 31 (1 : Int32).toNatClampNeg a3) (fun (M_19 : jl_Mem) =>
  jl_chk (jl_inb (2 : Int32) 4) (
  jl_lt (jl_st M_19 31 (2 : Int32).toNatClampNeg a4) (fun (M_30 : jl_Mem) =>
  jl_chk (jl_inb (3 : Int32) 4) (
  jl_lt (jl_st M_30 31 (3 : Int32).toNatClampNeg a5) (fun (M_41 : jl_Mem) =>
  jl_bnd (jf_X2_isSure 30 a1 M_41) (fun r_47 M_47 =>
  jl_chk (jl_isB r_47) (
  some (r_47, M_47)))))))))))

noncomputable def jf_X3_costOfDepths_L4 (x1L4 : Int32) (x2L4 : Int32) (ML4 : jl_Mem) : Option ((Int32 × Int32 × jl_Mem) ⊕ (Int32 × jl_Mem)) :=
  if (ML4 1 1) ≤ x2L4 then (
  jl_ex (
  some (x1L4, ML4))) else (
  jl_chk (jl_inb x2L4 4) (
  jl_lt (x1L4 + ((ML4 3 x2L4.toNatClampNeg) * (ML4 31 x2L4.toNatClampNeg))) (fun (x1_36 : Int32) =>
  jl_lt (x2L4 + 1) (fun (x2_37 : Int32) =>
  some (.inl (x1_36, x2_37, ML4))))))

noncomputable def jf_X3_costOfDepths (M : jl_Mem) : Option (Int32 × jl_Mem) :=
  jl_lt (0 : Int32) (fun (x1_1 : Int32) =>
  jl_lt (0 : Int32) (fun (x2_3 : Int32) =>
  jl_wh (fun q => jf_X3_costOfDepths_L4 q.1 q.2.1 q.2.2) jl_F (x1_1, x2_3, M)))

noncomputable def jf_X3_goToNextDepths_L10 (x1L10 : Int32) (ML10 : jl_Mem) : Option ((Int32 × jl_Mem) ⊕ (Int32 × jl_Mem)) :=
  if x1L10 < 0 then (
  jl_ex (
  some (0, ML10))) else (
  jl_bnd (jf_X2_isWhole 30 x1L10 ML10) (fun r_19 M_19 =>
  if r_19 = 0 then (
  jl_ex (
  jl_chk (jl_inb x1L10 4) (
  jl_lt (jl_st M_19 31 x1L10.toNatClampNeg ((M_19 31 x1L10.toNatClampNeg) + (1 : Int32))) (fun (M_37 : jl_Mem) =>
  some (0, M_37))))) else (
  jl_chk (jl_inb x1L10 4) (
  jl_lt (jl_st M_19 31 x1L10.toNatClampNeg (0 : Int32)) (fun (M_48 : jl_Mem) =>
  jl_lt (x1L10 + (-1)) (fun (x1_49 : Int32) =>
  some (.inl (x1_49, M_48))))))))

noncomputable def jf_X3_goToNextDepths (M : jl_Mem) : Option (Int32 × jl_Mem) :=
  jl_lt ((M 1 1) - (1 : Int32)) (fun (x1_9 : Int32) =>
  jl_wh (fun q => jf_X3_goToNextDepths_L10 q.1 q.2) jl_F (x1_9, M))

noncomputable def jf_X3_cheapest_L20 (a1 : Int32) (x2_14 : Int32) (x3L20 : Int32) (x4L20 : Int32) (ML20 : jl_Mem) : Option ((Int32 × Int32 × jl_Mem) ⊕ (Int32 × jl_Mem)) :=
  if x2_14 ≤ x4L20 then (
  jl_ex (
  some (x3L20, ML20))) else (
  jl_bnd (jf_X3_costOfDepths ML20) (fun r_27 M_27 =>
  jl_lt r_27 (fun (x5_30 : Int32) =>
  if x3L20 = (-1 : Int32) then (
  jl_bnd (jf_X2_isSure 30 a1 M_27) (fun r_48 M_48 =>
  if r_48 = 0 then (
  jl_bnd (jf_X3_goToNextDepths M_48) (fun r_75 M_75 =>
  jl_lt (x4L20 + 1) (fun (x4_78 : Int32) =>
  some (.inl (x3L20, x4_78, M_75))))) else (
  jl_lt x5_30 (fun (x3_56 : Int32) =>
  jl_lt (jl_sa M_48 35 (va_cpy (M_48 31) (M_48 35) 0 0 4)) (fun (M_71 : jl_Mem) =>
  jl_bnd (jf_X3_goToNextDepths M_71) (fun r_75 M_75 =>
  jl_lt (x4L20 + 1) (fun (x4_78 : Int32) =>
  some (.inl (x3_56, x4_78, M_75))))))))) else (
  if x3L20 ≤ x5_30 then (
  jl_bnd (jf_X3_goToNextDepths M_27) (fun r_75 M_75 =>
  jl_lt (x4L20 + 1) (fun (x4_78 : Int32) =>
  some (.inl (x3L20, x4_78, M_75))))) else (
  jl_bnd (jf_X2_isSure 30 a1 M_27) (fun r_48 M_48 =>
  if r_48 = 0 then (
  jl_bnd (jf_X3_goToNextDepths M_48) (fun r_75 M_75 =>
  jl_lt (x4L20 + 1) (fun (x4_78 : Int32) =>
  some (.inl (x3L20, x4_78, M_75))))) else (
  jl_lt x5_30 (fun (x3_56 : Int32) =>
  jl_lt (jl_sa M_48 35 (va_cpy (M_48 31) (M_48 35) 0 0 4)) (fun (M_71 : jl_Mem) =>
  jl_bnd (jf_X3_goToNextDepths M_71) (fun r_75 M_75 =>
  jl_lt (x4L20 + 1) (fun (x4_78 : Int32) =>
  some (.inl (x3_56, x4_78, M_75)))))))))))))

noncomputable def jf_X3_cheapest (a1 : Int32) (M : jl_Mem) : Option (Int32 × jl_Mem) :=
  jl_bnd (jf_X2_forget 30 M) (fun r_4 M_4 =>
  jl_bnd (jf_X0_depthRows M_4) (fun r_11 M_11 =>
  jl_lt r_11 (fun (x2_14 : Int32) =>
  jl_lt (-1 : Int32) (fun (x3_16 : Int32) =>
  jl_lt (0 : Int32) (fun (x4_18 : Int32) =>
  jl_wh (fun q => jf_X3_cheapest_L20 a1 x2_14 q.1 q.2.1 q.2.2) jl_F (x3_16, x4_18, M_11))))))

noncomputable def jf_X4_thing (M : jl_Mem) : Option (Int32 × jl_Mem) :=
  if (M 1 0) < (20 : Int32) then (
  jl_lt (jl_st M 23 2 (0 : Int32)) (fun (M_20 : jl_Mem) =>
  jl_lt (jl_st M_20 1 0 ((M_20 1 0) + (1 : Int32))) (fun (M_33 : jl_Mem) =>
  some (((M_33 1 0) - (1 : Int32)), M_33)))) else (
  some ((-4 : Int32), M))

noncomputable def jf_X4_list (a1 : Int32) (a2 : Int32) (a3 : Int32) (M : jl_Mem) : Option (Int32 × jl_Mem) :=
  jl_bnd (jf_X4_within a1 (0 : Int32) (10 : Int32) M) (fun r_4 M_4 =>
  if r_4 = 0 then (
  some ((-2 : Int32), M_4)) else (
  jl_bnd (jf_X4_within a2 (1 : Int32) (100 : Int32) M_4) (fun r_14 M_14 =>
  if r_14 = 0 then (
  some ((-2 : Int32), M_14)) else (
  jl_bnd (jf_X4_within a3 (0 : Int32) (100 : Int32) M_14) (fun r_24 M_24 =>
  if r_24 = 0 then (
  some ((-2 : Int32), M_24)) else (
  if (M_24 1 1) < (4 : Int32) then (
  jl_lt (jl_st M_24 23 2 (0 : Int32)) (fun (M_52 : jl_Mem) =>
  jl_bnd (jf_X0_addList a1 a2 a3 M_52) (fun r_62 M_62 =>
  some (r_62, M_62)))) else (
  some ((-4 : Int32), M_24))))))))

noncomputable def jf_X4_changeMark (a1 : Int32) (a2 : Int32) (a3 : Int32) (M : jl_Mem) : Option (Int32 × jl_Mem) :=
  jl_chk (jl_inb a1 4) (
  jl_chk (jl_inb a2 20) (
  jl_lt (M (7 + a1.toNatClampNeg) a2.toNatClampNeg) (fun (x4_11 : Int32) =>
  if x4_11 = a3 then (
  some (x4_11, M)) else (
  jl_lt (jl_st M 23 2 (0 : Int32)) (fun (M_24 : jl_Mem) =>
  jl_bnd (jf_X0_setMark a1 a2 a3 M_24) (fun r_34 M_34 =>
  some (x4_11, M_34)))))))

noncomputable def jf_X4_mark (a1 : Int32) (a2 : Int32) (a3 : Int32) (M : jl_Mem) : Option (Int32 × jl_Mem) :=
  jl_bnd (jf_X0_hasList a1 M) (fun r_5 M_5 =>
  if r_5 = 0 then (
  some ((-1 : Int32), M_5)) else (
  jl_bnd (jf_X0_hasThing a2 M_5) (fun r_16 M_16 =>
  if r_16 = 0 then (
  some ((-1 : Int32), M_16)) else (
  jl_bnd (jf_X4_within a3 (1 : Int32) (1000 : Int32) M_16) (fun r_29 M_29 =>
  if r_29 = 0 then (
  some ((-2 : Int32), M_29)) else (
  jl_bnd (jf_X4_changeMark a1 a2 a3 M_29) (fun r_42 M_42 =>
  some (r_42, M_42))))))))

noncomputable def jf_X4_unmark (a1 : Int32) (a2 : Int32) (M : jl_Mem) : Option (Int32 × jl_Mem) :=
  jl_bnd (jf_X0_hasList a1 M) (fun r_5 M_5 =>
  if r_5 = 0 then (
  some ((-1 : Int32), M_5)) else (
  jl_bnd (jf_X0_hasThing a2 M_5) (fun r_16 M_16 =>
  if r_16 = 0 then (
  some ((-1 : Int32), M_16)) else (
  jl_bnd (jf_X4_changeMark a1 a2 (0 : Int32) M_16) (fun r_28 M_28 =>
  some (r_28, M_28))))))

noncomputable def jf_X4_weigh (a1 : Int32) (a2 : Int32) (M : jl_Mem) : Option (Int32 × jl_Mem) :=
  jl_bnd (jf_X0_hasList a1 M) (fun r_5 M_5 =>
  if r_5 = 0 then (
  some ((-1 : Int32), M_5)) else (
  jl_bnd (jf_X4_within a2 (0 : Int32) (10 : Int32) M_5) (fun r_17 M_17 =>
  if r_17 = 0 then (
  some ((-2 : Int32), M_17)) else (
  jl_chk (jl_inb a1 4) (
  jl_lt (M_17 2 a1.toNatClampNeg) (fun (x3_35 : Int32) =>
  if x3_35 = a2 then (
  jl_lt (jl_st M_17 2 a1.toNatClampNeg a2) (fun (M_58 : jl_Mem) =>
  some (x3_35, M_58))) else (
  jl_lt (jl_st M_17 23 2 (0 : Int32)) (fun (M_46 : jl_Mem) =>
  jl_lt (jl_st M_46 2 a1.toNatClampNeg a2) (fun (M_58 : jl_Mem) =>
  some (x3_35, M_58))))))))))

noncomputable def jf_X4_rule (a1 : Int32) (M : jl_Mem) : Option (Int32 × jl_Mem) :=
  jl_bnd (jf_X4_within a1 (0 : Int32) (2 : Int32) M) (fun r_3 M_3 =>
  if r_3 = 0 then (
  some ((-2 : Int32), M_3)) else (
  jl_lt (M_3 1 3) (fun (x2_19 : Int32) =>
  if x2_19 = a1 then (
  jl_lt (jl_st M_3 1 3 a1) (fun (M_38 : jl_Mem) =>
  some (x2_19, M_38))) else (
  jl_lt (jl_st M_3 23 2 (0 : Int32)) (fun (M_30 : jl_Mem) =>
  jl_lt (jl_st M_30 1 3 a1) (fun (M_38 : jl_Mem) =>
  some (x2_19, M_38)))))))

noncomputable def jf_X4_about (a1 : Int32) (a2 : Int32) (M : jl_Mem) : Option (Int32 × jl_Mem) :=
  jl_bnd (jf_X0_hasList a1 M) (fun r_5 M_5 =>
  if r_5 = 0 then (
  some ((-1 : Int32), M_5)) else (
  if a2 = 0 then (
  jl_chk (jl_inb a1 4) (
  some ((M_5 2 a1.toNatClampNeg), M_5))) else (
  if a2 = 1 then (
  jl_chk (jl_inb a1 4) (
  some ((M_5 3 a1.toNatClampNeg), M_5))) else (
  if a2 = 2 then (
  jl_chk (jl_inb a1 4) (
  some ((M_5 4 a1.toNatClampNeg), M_5))) else (
  if a2 = 3 then (
  jl_chk (jl_inb a1 4) (
  some ((M_5 5 a1.toNatClampNeg), M_5))) else (
  some ((-1 : Int32), M_5)))))))

noncomputable def jf_X4_row (a1 : Int32) (a2 : Int32) (M : jl_Mem) : Option (Int32 × jl_Mem) :=
  jl_bnd (jf_X0_hasList a1 M) (fun r_5 M_5 =>
  if r_5 = 0 then (
  some ((-1 : Int32), M_5)) else (
  jl_chk (jl_inb a1 4) (
  jl_bnd (jf_X4_within a2 (0 : Int32) ((M_5 5 a1.toNatClampNeg) - (1 : Int32)) M_5) (fun r_24 M_24 =>
  if r_24 = 0 then (
  some ((-1 : Int32), M_24)) else (
  jl_chk (jl_inb a2 20) (
  some ((M_24 (12 + a1.toNatClampNeg) a2.toNatClampNeg), M_24)))))))

noncomputable def jf_X4_place (a1 : Int32) (a2 : Int32) (a3 : Int32) (M : jl_Mem) : Option (Int32 × jl_Mem) :=
  jl_bnd (jf_X0_hasList a1 M) (fun r_5 M_5 =>
  if r_5 = 0 then (
  some ((-1 : Int32), M_5)) else (
  jl_bnd (jf_X0_hasThing a2 M_5) (fun r_16 M_16 =>
  if r_16 = 0 then (
  some ((-1 : Int32), M_16)) else (
  jl_bnd (jf_X4_within a3 (0 : Int32) (1 : Int32) M_16) (fun r_25 M_25 =>
  if r_25 = 0 then (
  some ((-1 : Int32), M_25)) else (
  jl_chk (jl_inb a1 4) (
  jl_chk (jl_inb a2 20) (
  if (M_25 (7 + a1.toNatClampNeg) a2.toNatClampNeg) = 0 then (
  some ((-1 : Int32), M_25)) else (
  if a3 = 0 then (
  some ((M_25 (17 + a1.toNatClampNeg) a2.toNatClampNeg), M_25)) else (
  some ((M_25 (7 + a1.toNatClampNeg) a2.toNatClampNeg), M_25)))))))))))

noncomputable def jf_X4_total (a1 : Int32) (M : jl_Mem) : Option (Int32 × jl_Mem) :=
  jl_bnd (jf_X0_hasThing a1 M) (fun r_5 M_5 =>
  if r_5 = 0 then (
  some ((-1 : Int32), M_5)) else (
  jl_bnd (jf_X0_totalOf a1 M_5) (fun r_16 M_16 =>
  some (r_16, M_16))))

noncomputable def jf_X4_best (a1 : Int32) (M : jl_Mem) : Option (Int32 × jl_Mem) :=
  jl_bnd (jf_X0_hasThing a1 M) (fun r_5 M_5 =>
  if r_5 = 0 then (
  some ((-1 : Int32), M_5)) else (
  jl_bnd (jf_X0_bestAt a1 M_5) (fun r_16 M_16 =>
  some (r_16, M_16))))

noncomputable def jf_X4_begin (a1 : Int32) (a2 : Int32) (a3 : Int32) (M : jl_Mem) : Option (Int32 × jl_Mem) :=
  jl_bnd (jf_X0_mayAskFor a2 M) (fun r_5 M_5 =>
  if r_5 = 0 then (
  some ((-2 : Int32), M_5)) else (
  jl_bnd (jf_X4_within a1 (0 : Int32) (2 : Int32) M_5) (fun r_14 M_14 =>
  if r_14 = 0 then (
  some ((-2 : Int32), M_14)) else (
  if a1 = (2 : Int32) then (
  jl_bnd (jf_X4_within a3 (1 : Int32) (10 : Int32) M_14) (fun r_32 M_32 =>
  if r_32 = 0 then (
  some ((-2 : Int32), M_32)) else (
  jl_bnd (jf_X1_start a1 a2 a3 M_32) (fun r_55 M_55 =>
  jl_bnd (jf_X4_yes (M_55 23 3) M_55) (fun r_65 M_65 =>
  some (r_65, M_65)))))) else (
  if a3 = 0 then (
  jl_bnd (jf_X1_start a1 a2 a3 M_14) (fun r_55 M_55 =>
  jl_bnd (jf_X4_yes (M_55 23 3) M_55) (fun r_65 M_65 =>
  some (r_65, M_65)))) else (
  some ((-2 : Int32), M_14)))))))

noncomputable def jf_X4_round (M : jl_Mem) : Option (Int32 × jl_Mem) :=
  if (M 23 2) = 0 then (
  some ((-1 : Int32), M)) else (
  if (M 23 3) = 0 then (
  jl_bnd (jf_X1_workRound M) (fun r_29 M_29 =>
  jl_bnd (jf_X4_yes (M_29 23 3) M_29) (fun r_39 M_39 =>
  some (r_39, M_39)))) else (
  some ((-3 : Int32), M)))

noncomputable def jf_X4_finish_L35 (x1_32 : Int32) (x2L35 : Int32) (ML35 : jl_Mem) : Option ((Int32 × jl_Mem) ⊕ (Int32 × jl_Mem)) :=
  if (20 : Int32) ≤ x2L35 then (
  jl_ex (
  some (((ML35 23 7) - x1_32), ML35))) else (
  if (ML35 23 3) = 0 then (
  jl_bnd (jf_X1_workRound ML35) (fun r_55 M_55 =>
  jl_lt (x2L35 + 1) (fun (x2_58 : Int32) =>
  some (.inl (x2_58, M_55))))) else (
  jl_ex (
  some (((ML35 23 7) - x1_32), ML35))))

noncomputable def jf_X4_finish (M : jl_Mem) : Option (Int32 × jl_Mem) :=
  if (M 23 2) = 0 then (
  some ((-1 : Int32), M)) else (
  if (M 23 3) = 0 then (
  jl_lt (M 23 7) (fun (x1_32 : Int32) =>
  jl_lt (0 : Int32) (fun (x2_34 : Int32) =>
  jl_wh (fun q => jf_X4_finish_L35 x1_32 q.1 q.2) jl_F (x2_34, M)))) else (
  some ((-3 : Int32), M)))

noncomputable def jf_X4_reader (a1 : Int32) (M : jl_Mem) : Option (Int32 × jl_Mem) :=
  if (M 23 2) = 0 then (
  some ((-1 : Int32), M)) else (
  if a1 = 0 then (
  some ((M 23 4), M)) else (
  if a1 = 1 then (
  some ((M 23 5), M)) else (
  if a1 = 2 then (
  some ((M 23 7), M)) else (
  if a1 = 3 then (
  jl_bnd (jf_X2_placesSeen 24 M) (fun r_91 M_91 =>
  some (r_91, M_91))) else (
  if a1 = 4 then (
  some ((M 23 8), M)) else (
  if a1 = 5 then (
  some ((M 23 9), M)) else (
  if a1 = 6 then (
  jl_bnd (jf_X4_yes (M 23 3) M) (fun r_118 M_118 =>
  some (r_118, M_118))) else (
  if a1 = 7 then (
  jl_bnd (jf_X2_thingsSeen 24 M) (fun r_129 M_129 =>
  some (r_129, M_129))) else (
  some ((-1 : Int32), M))))))))))

noncomputable def jf_X4_depth (a1 : Int32) (a2 : Int32) (M : jl_Mem) : Option (Int32 × jl_Mem) :=
  jl_bnd (jf_X0_hasList a1 M) (fun r_5 M_5 =>
  if r_5 = 0 then (
  some ((-1 : Int32), M_5)) else (
  jl_bnd (jf_X4_within a2 (0 : Int32) (1 : Int32) M_5) (fun r_14 M_14 =>
  if r_14 = 0 then (
  some ((-1 : Int32), M_14)) else (
  if (M_14 23 2) = 0 then (
  some ((-1 : Int32), M_14)) else (
  if a2 = 0 then (
  jl_chk (jl_inb a1 4) (
  some ((M_14 25 a1.toNatClampNeg), M_14))) else (
  jl_bnd (jf_X2_topOf 24 a1 M_14) (fun r_59 M_59 =>
  some (r_59, M_59))))))))

noncomputable def jf_X4_known (a1 : Int32) (a2 : Int32) (M : jl_Mem) : Option (Int32 × jl_Mem) :=
  jl_bnd (jf_X0_hasList a1 M) (fun r_5 M_5 =>
  if r_5 = 0 then (
  some ((-1 : Int32), M_5)) else (
  jl_bnd (jf_X0_hasThing a2 M_5) (fun r_16 M_16 =>
  if r_16 = 0 then (
  some ((-1 : Int32), M_16)) else (
  if (M_16 23 2) = 0 then (
  some ((-1 : Int32), M_16)) else (
  jl_bnd (jf_X2_isKnown 24 a1 a2 M_16) (fun r_43 M_43 =>
  jl_bnd (jf_X4_yes r_43 M_43) (fun r_46 M_46 =>
  some (r_46, M_46))))))))

noncomputable def jf_X4_bound (a1 : Int32) (a2 : Int32) (M : jl_Mem) : Option (Int32 × jl_Mem) :=
  jl_bnd (jf_X0_hasThing a1 M) (fun r_5 M_5 =>
  if r_5 = 0 then (
  some ((-1 : Int32), M_5)) else (
  if (M_5 23 2) = 0 then (
  some ((-1 : Int32), M_5)) else (
  jl_bnd (jf_X4_within a2 (0 : Int32) (1 : Int32) M_5) (fun r_26 M_26 =>
  if r_26 = 0 then (
  some ((-2 : Int32), M_26)) else (
  if a2 = (1 : Int32) then (
  jl_bnd (jf_X2_highOf 24 a1 M_26) (fun r_48 M_48 =>
  some (r_48, M_48))) else (
  jl_bnd (jf_X2_lowOf 24 a1 M_26) (fun r_62 M_62 =>
  some (r_62, M_62))))))))

noncomputable def jf_X4_ahead (a1 : Int32) (a2 : Int32) (M : jl_Mem) : Option (Int32 × jl_Mem) :=
  jl_bnd (jf_X0_hasThing a1 M) (fun r_5 M_5 =>
  if r_5 = 0 then (
  some ((-1 : Int32), M_5)) else (
  jl_bnd (jf_X0_hasThing a2 M_5) (fun r_16 M_16 =>
  if r_16 = 0 then (
  some ((-1 : Int32), M_16)) else (
  if (M_16 23 2) = 0 then (
  some ((-1 : Int32), M_16)) else (
  if a1 = a2 then (
  some ((-2 : Int32), M_16)) else (
  jl_bnd (jf_X2_lowOf 24 a1 M_16) (fun r_51 M_51 =>
  jl_bnd (jf_X2_highOf 24 a2 M_51) (fun r_63 M_63 =>
  jl_bnd (jf_X4_comesFirst a1 r_51 a2 r_63 M_63) (fun r_66 M_66 =>
  jl_bnd (jf_X4_yes r_66 M_66) (fun r_69 M_69 =>
  some (r_69, M_69)))))))))))

noncomputable def jf_X4_found (a1 : Int32) (M : jl_Mem) : Option (Int32 × jl_Mem) :=
  if (M 23 2) = 0 then (
  some ((-1 : Int32), M)) else (
  jl_bnd (jf_X4_within a1 (0 : Int32) ((M 23 5) - (1 : Int32)) M) (fun r_21 M_21 =>
  if r_21 = 0 then (
  some ((-1 : Int32), M_21)) else (
  if (M_21 23 3) = 0 then (
  some ((-3 : Int32), M_21)) else (
  jl_bnd (jf_X2_foundAt 24 a1 M_21) (fun r_50 M_50 =>
  some (r_50, M_50))))))

noncomputable def jf_X4_enough (a1 : Int32) (a2 : Int32) (a3 : Int32) (a4 : Int32) (a5 : Int32) (M : jl_Mem) : Option (Int32 × jl_Mem) :=
  jl_bnd (jf_X0_mayAskFor a1 M) (fun r_5 M_5 =>
  if r_5 = 0 then (
  some ((-2 : Int32), M_5)) else (
  jl_bnd (jf_X0_isDepth (0 : Int32) a2 M_5) (fun r_20 M_20 =>
  if r_20 = 0 then (
  some ((-2 : Int32), M_20)) else (
  jl_bnd (jf_X0_isDepth (1 : Int32) a3 M_20) (fun r_32 M_32 =>
  if r_32 = 0 then (
  some ((-2 : Int32), M_32)) else (
  jl_bnd (jf_X0_isDepth (2 : Int32) a4 M_32) (fun r_45 M_45 =>
  if r_45 = 0 then (
  some ((-2 : Int32), M_45)) else (
  jl_bnd (jf_X0_isDepth (3 : Int32) a5 M_45) (fun r_58 M_58 =>
  if r_58 = 0 then (
  some ((-2 : Int32), M_58)) else (
  jl_bnd (jf_X3_isEnough a1 a2 a3 a4 a5 M_58) (fun r_78 M_78 =>
  jl_bnd (jf_X4_yes r_78 M_78) (fun r_81 M_81 =>
  some (r_81, M_81)))))))))))))

noncomputable def jf_X4_least (a1 : Int32) (M : jl_Mem) : Option (Int32 × jl_Mem) :=
  jl_bnd (jf_X0_mayAskFor a1 M) (fun r_5 M_5 =>
  if r_5 = 0 then (
  some ((-2 : Int32), M_5)) else (
  jl_bnd (jf_X0_depthRows M_5) (fun r_18 M_18 =>
  if r_18 ≤ (500 : Int32) then (
  jl_bnd (jf_X3_cheapest a1 M_18) (fun r_35 M_35 =>
  some (r_35, M_35))) else (
  some ((-3 : Int32), M_18)))))

noncomputable def jf_X4_leastDepth (a1 : Int32) (M : jl_Mem) : Option (Int32 × jl_Mem) :=
  jl_bnd (jf_X4_within a1 (0 : Int32) (3 : Int32) M) (fun r_3 M_3 =>
  if r_3 = 0 then (
  some ((-1 : Int32), M_3)) else (
  jl_chk (jl_inb a1 4) (
  some ((M_3 35 a1.toNatClampNeg), M_3))))

noncomputable def jf_X4_count (a1 : Int32) (M : jl_Mem) : Option (Int32 × jl_Mem) :=
  if a1 = 0 then (
  some ((M 1 0), M)) else (
  if a1 = 1 then (
  some ((M 1 1), M)) else (
  if a1 = 2 then (
  some ((M 1 2), M)) else (
  if a1 = 3 then (
  some ((M 1 3), M)) else (
  if a1 = 4 then (
  jl_bnd (jf_X4_yes (M 23 2) M) (fun r_75 M_75 =>
  some (r_75, M_75))) else (
  some ((-1 : Int32), M))))))
noncomputable def jf_X5_in (a1 : Int32) (a2 : Int32) (a3 : Int32) (M : jl_Mem) : Option (Int32 × jl_Mem) :=
  if a1 < a2 then (
  some ((0 : Int32), M)) else (
  if a3 < a1 then (
  some ((0 : Int32), M)) else (
  some ((1 : Int32), M)))

noncomputable def jf_X5_isThing (a1 : Int32) (M : jl_Mem) : Option (Int32 × jl_Mem) :=
  jl_bnd (jf_X5_in a1 (0 : Int32) ((M 0 1) - (1 : Int32)) M) (fun r_8 M_8 =>
  jl_chk (jl_isB r_8) (
  some (r_8, M_8)))

noncomputable def jf_X5_isList (a1 : Int32) (M : jl_Mem) : Option (Int32 × jl_Mem) :=
  jl_bnd (jf_X5_in a1 (0 : Int32) ((M 0 2) - (1 : Int32)) M) (fun r_8 M_8 =>
  jl_chk (jl_isB r_8) (
  some (r_8, M_8)))

noncomputable def jf_X5_thing_L14 (x1L14 : Int32) (ML14 : jl_Mem) : Option ((Int32 × jl_Mem) ⊕ (Int32 × jl_Mem)) :=
  if (4 : Int32) ≤ x1L14 then (
  jl_ex (
  jl_lt (jl_st ML14 0 1 ((ML14 0 1) + (1 : Int32))) (fun (M_47 : jl_Mem) =>
  jl_lt (jl_st M_47 0 16 (0 : Int32)) (fun (M_52 : jl_Mem) =>
  some (((M_52 0 1) - (1 : Int32)), M_52))))) else (
  jl_chk (jl_inb (((20 : Int32) * x1L14) + (ML14 0 1)) 80) (
  jl_lt (jl_st ML14 4 (((20 : Int32) * x1L14) + (ML14 0 1)).toNatClampNeg (0 : Int32)) (fun (M_33 : jl_Mem) =>
  jl_lt (x1L14 + 1) (fun (x1_34 : Int32) =>
  some (.inl (x1_34, M_33))))))

noncomputable def jf_X5_thing (M : jl_Mem) : Option (Int32 × jl_Mem) :=
  if (M 0 1) = (20 : Int32) then (
  some ((-4 : Int32), M)) else (
  jl_lt (0 : Int32) (fun (x1_13 : Int32) =>
  jl_wh (fun q => jf_X5_thing_L14 q.1 q.2) jl_F (x1_13, M)))

noncomputable def jf_X5_list (a1 : Int32) (a2 : Int32) (a3 : Int32) (M : jl_Mem) : Option (Int32 × jl_Mem) :=
  jl_bnd (jf_X5_in a1 (0 : Int32) (10 : Int32) M) (fun r_4 M_4 =>
  if r_4 = 0 then (
  some ((-2 : Int32), M_4)) else (
  jl_bnd (jf_X5_in a2 (1 : Int32) (100 : Int32) M_4) (fun r_14 M_14 =>
  if r_14 = 0 then (
  some ((-2 : Int32), M_14)) else (
  jl_bnd (jf_X5_in a3 (0 : Int32) (100 : Int32) M_14) (fun r_24 M_24 =>
  if r_24 = 0 then (
  some ((-2 : Int32), M_24)) else (
  if (M_24 0 2) = (4 : Int32) then (
  some ((-4 : Int32), M_24)) else (
  jl_chk (jl_inb (M_24 0 2) 4) (
  jl_lt (jl_st M_24 1 (M_24 0 2).toNatClampNeg a1) (fun (M_53 : jl_Mem) =>
  jl_chk (jl_inb (M_53 0 2) 4) (
  jl_lt (jl_st M_53 2 (M_53 0 2).toNatClampNeg a2) (fun (M_63 : jl_Mem) =>
  jl_chk (jl_inb (M_63 0 2) 4) (
  jl_lt (jl_st M_63 3 (M_63 0 2).toNatClampNeg a3) (fun (M_73 : jl_Mem) =>
  jl_chk (jl_inb (M_73 0 2) 4) (
  jl_lt (jl_st M_73 6 (M_73 0 2).toNatClampNeg (0 : Int32)) (fun (M_83 : jl_Mem) =>
  jl_lt (jl_st M_83 0 2 ((M_83 0 2) + (1 : Int32))) (fun (M_91 : jl_Mem) =>
  jl_lt (jl_st M_91 0 16 (0 : Int32)) (fun (M_96 : jl_Mem) =>
  some (((M_96 0 2) - (1 : Int32)), M_96))))))))))))))))))

noncomputable def jf_X5_order_L41 (a1 : Int32) (x2L9 : Int32) (x3L41 : Int32) (ML41 : jl_Mem) : Option ((Int32 × jl_Mem) ⊕ ((Int32 × jl_Mem) ⊕ (Int32 × jl_Mem))) :=
  if x3L41 ≤ 0 then (
  jl_ex (
  jl_chk (jl_inb (((20 : Int32) * a1) + x3L41) 80) (
  jl_lt (jl_st ML41 5 (((20 : Int32) * a1) + x3L41).toNatClampNeg x2L9) (fun (M_123 : jl_Mem) =>
  jl_lt (jl_st M_123 6 a1.toNatClampNeg ((M_123 6 a1.toNatClampNeg) + (1 : Int32))) (fun (M_133 : jl_Mem) =>
  jl_lt (x2L9 + 1) (fun (x2_134 : Int32) =>
  some (.inl (x2_134, M_133)))))))) else (
  jl_chk (jl_inb ((((20 : Int32) * a1) + x3L41) - (1 : Int32)) 80) (
  jl_chk (jl_inb (((20 : Int32) * a1) + (ML41 5 ((((20 : Int32) * a1) + x3L41) - (1 : Int32)).toNatClampNeg)) 80) (
  if (ML41 4 (((20 : Int32) * a1) + x2L9).toNatClampNeg) ≤ (ML41 4 (((20 : Int32) * a1) + (ML41 5 ((((20 : Int32) * a1) + x3L41) - (1 : Int32)).toNatClampNeg)).toNatClampNeg) then (
  jl_ex (
  jl_chk (jl_inb (((20 : Int32) * a1) + x3L41) 80) (
  jl_lt (jl_st ML41 5 (((20 : Int32) * a1) + x3L41).toNatClampNeg x2L9) (fun (M_123 : jl_Mem) =>
  jl_lt (jl_st M_123 6 a1.toNatClampNeg ((M_123 6 a1.toNatClampNeg) + (1 : Int32))) (fun (M_133 : jl_Mem) =>
  jl_lt (x2L9 + 1) (fun (x2_134 : Int32) =>
  some (.inl (x2_134, M_133)))))))) else (
  jl_chk (jl_inb (((20 : Int32) * a1) + x3L41) 80) (
  jl_lt (jl_st ML41 5 (((20 : Int32) * a1) + x3L41).toNatClampNeg (ML41 5 ((((20 : Int32) * a1) + x3L41) - (1 : Int32)).toNatClampNeg)) (fun (M_105 : jl_Mem) =>
  jl_lt (x3L41 + (-1)) (fun (x3_106 : Int32) =>
  some (.inl (x3_106, M_105)))))))))

noncomputable def jf_X5_order_L9 (a1 : Int32) (x2L9 : Int32) (ML9 : jl_Mem) : Option ((Int32 × jl_Mem) ⊕ (Int32 × jl_Mem)) :=
  if (ML9 0 1) ≤ x2L9 then (
  jl_ex (
  jl_lt (jl_st ML9 0 16 (0 : Int32)) (fun (M_142 : jl_Mem) =>
  some (0, M_142)))) else (
  jl_chk (jl_inb (((20 : Int32) * a1) + x2L9) 80) (
  if (ML9 4 (((20 : Int32) * a1) + x2L9).toNatClampNeg) = 0 then (
  jl_lt (x2L9 + 1) (fun (x2_134 : Int32) =>
  some (.inl (x2_134, ML9)))) else (
  jl_lt (ML9 6 a1.toNatClampNeg) (fun (x3_40 : Int32) =>
  jl_wh (fun q => jf_X5_order_L41 a1 x2L9 q.1 q.2) jl_F (x3_40, ML9)))))

noncomputable def jf_X5_order (a1 : Int32) (M : jl_Mem) : Option (Int32 × jl_Mem) :=
  jl_chk (jl_inb a1 4) (
  jl_lt (jl_st M 6 a1.toNatClampNeg (0 : Int32)) (fun (M_6 : jl_Mem) =>
  jl_lt (0 : Int32) (fun (x2_8 : Int32) =>
  jl_wh (fun q => jf_X5_order_L9 a1 q.1 q.2) jl_F (x2_8, M_6))))

noncomputable def jf_X5_mark (a1 : Int32) (a2 : Int32) (a3 : Int32) (M : jl_Mem) : Option (Int32 × jl_Mem) :=
  jl_bnd (jf_X5_isList a1 M) (fun r_2 M_2 =>
  if r_2 = 0 then (
  some ((-1 : Int32), M_2)) else (
  jl_bnd (jf_X5_isThing a2 M_2) (fun r_10 M_10 =>
  if r_10 = 0 then (
  some ((-1 : Int32), M_10)) else (
  jl_bnd (jf_X5_in a3 (1 : Int32) (1000 : Int32) M_10) (fun r_23 M_23 =>
  if r_23 = 0 then (
  some ((-2 : Int32), M_23)) else (
  jl_chk (jl_inb (((20 : Int32) * a1) + a2) 80) (
  jl_lt (M_23 4 (((20 : Int32) * a1) + a2).toNatClampNeg) (fun (x4_43 : Int32) =>
  jl_lt (jl_st M_23 4 (((20 : Int32) * a1) + a2).toNatClampNeg a3) (fun (M_56 : jl_Mem) =>
  if a3 = x4_43 then (
  some (x4_43, M_56)) else (
  jl_bnd (jf_X5_order a1 M_56) (fun r_65 M_65 =>
  some (x4_43, M_65))))))))))))

noncomputable def jf_X5_unmark (a1 : Int32) (a2 : Int32) (M : jl_Mem) : Option (Int32 × jl_Mem) :=
  jl_bnd (jf_X5_isList a1 M) (fun r_2 M_2 =>
  if r_2 = 0 then (
  some ((-1 : Int32), M_2)) else (
  jl_bnd (jf_X5_isThing a2 M_2) (fun r_10 M_10 =>
  if r_10 = 0 then (
  some ((-1 : Int32), M_10)) else (
  jl_chk (jl_inb (((20 : Int32) * a1) + a2) 80) (
  jl_lt (M_10 4 (((20 : Int32) * a1) + a2).toNatClampNeg) (fun (x3_29 : Int32) =>
  jl_lt (jl_st M_10 4 (((20 : Int32) * a1) + a2).toNatClampNeg (0 : Int32)) (fun (M_41 : jl_Mem) =>
  if x3_29 = 0 then (
  some (x3_29, M_41)) else (
  jl_bnd (jf_X5_order a1 M_41) (fun r_48 M_48 =>
  some (x3_29, M_48))))))))))

noncomputable def jf_X5_weigh (a1 : Int32) (a2 : Int32) (M : jl_Mem) : Option (Int32 × jl_Mem) :=
  jl_bnd (jf_X5_isList a1 M) (fun r_2 M_2 =>
  if r_2 = 0 then (
  some ((-1 : Int32), M_2)) else (
  jl_bnd (jf_X5_in a2 (0 : Int32) (10 : Int32) M_2) (fun r_14 M_14 =>
  if r_14 = 0 then (
  some ((-2 : Int32), M_14)) else (
  jl_chk (jl_inb a1 4) (
  jl_lt (M_14 1 a1.toNatClampNeg) (fun (x3_29 : Int32) =>
  jl_lt (jl_st M_14 1 a1.toNatClampNeg a2) (fun (M_36 : jl_Mem) =>
  if (M_36 0 16) = 0 then (
  jl_lt (jl_st M_36 0 16 (0 : Int32)) (fun (M_55 : jl_Mem) =>
  some (x3_29, M_55))) else (
  if a2 = x3_29 then (
  jl_lt (jl_st M_36 0 16 (1 : Int32)) (fun (M_55 : jl_Mem) =>
  some (x3_29, M_55))) else (
  jl_lt (jl_st M_36 0 16 (0 : Int32)) (fun (M_55 : jl_Mem) =>
  some (x3_29, M_55)))))))))))

noncomputable def jf_X5_rule (a1 : Int32) (M : jl_Mem) : Option (Int32 × jl_Mem) :=
  jl_bnd (jf_X5_in a1 (0 : Int32) (2 : Int32) M) (fun r_3 M_3 =>
  if r_3 = 0 then (
  some ((-2 : Int32), M_3)) else (
  jl_lt (M_3 0 3) (fun (x2_16 : Int32) =>
  jl_lt (jl_st M_3 0 3 a1) (fun (M_19 : jl_Mem) =>
  if (M_19 0 16) = 0 then (
  jl_lt (jl_st M_19 0 16 (0 : Int32)) (fun (M_40 : jl_Mem) =>
  some (x2_16, M_40))) else (
  if a1 = x2_16 then (
  jl_lt (jl_st M_19 0 16 (1 : Int32)) (fun (M_40 : jl_Mem) =>
  some (x2_16, M_40))) else (
  jl_lt (jl_st M_19 0 16 (0 : Int32)) (fun (M_40 : jl_Mem) =>
  some (x2_16, M_40))))))))

noncomputable def jf_X5_about (a1 : Int32) (a2 : Int32) (M : jl_Mem) : Option (Int32 × jl_Mem) :=
  jl_bnd (jf_X5_isList a1 M) (fun r_2 M_2 =>
  if r_2 = 0 then (
  some ((-1 : Int32), M_2)) else (
  if a2 = 0 then (
  jl_chk (jl_inb a1 4) (
  some ((M_2 1 a1.toNatClampNeg), M_2))) else (
  if a2 = 1 then (
  jl_chk (jl_inb a1 4) (
  some ((M_2 2 a1.toNatClampNeg), M_2))) else (
  if a2 = 2 then (
  jl_chk (jl_inb a1 4) (
  some ((M_2 3 a1.toNatClampNeg), M_2))) else (
  if a2 = 3 then (
  jl_chk (jl_inb a1 4) (
  some ((M_2 6 a1.toNatClampNeg), M_2))) else (
  some ((-1 : Int32), M_2)))))))

noncomputable def jf_X5_row (a1 : Int32) (a2 : Int32) (M : jl_Mem) : Option (Int32 × jl_Mem) :=
  jl_bnd (jf_X5_isList a1 M) (fun r_2 M_2 =>
  if r_2 = 0 then (
  some ((-1 : Int32), M_2)) else (
  jl_chk (jl_inb a1 4) (
  jl_bnd (jf_X5_in a2 (0 : Int32) ((M_2 6 a1.toNatClampNeg) - (1 : Int32)) M_2) (fun r_18 M_18 =>
  if r_18 = 0 then (
  some ((-1 : Int32), M_18)) else (
  jl_chk (jl_inb (((20 : Int32) * a1) + a2) 80) (
  some ((M_18 5 (((20 : Int32) * a1) + a2).toNatClampNeg), M_18)))))))

noncomputable def jf_X5_placeOf_L2 (a1 : Int32) (a2 : Int32) (x3L2 : Int32) (ML2 : jl_Mem) : Option ((Int32 × jl_Mem) ⊕ (Int32 × jl_Mem)) :=
  jl_chk (jl_inb a1 4) (
  if (ML2 6 a1.toNatClampNeg) ≤ x3L2 then (
  jl_ex (
  some ((-1 : Int32), ML2))) else (
  jl_chk (jl_inb (((20 : Int32) * a1) + x3L2) 80) (
  if (ML2 5 (((20 : Int32) * a1) + x3L2).toNatClampNeg) = a2 then (
  jl_ex (
  some (x3L2, ML2))) else (
  jl_lt (x3L2 + 1) (fun (x3_29 : Int32) =>
  some (.inl (x3_29, ML2)))))))

noncomputable def jf_X5_placeOf (a1 : Int32) (a2 : Int32) (M : jl_Mem) : Option (Int32 × jl_Mem) :=
  jl_lt (0 : Int32) (fun (x3_1 : Int32) =>
  jl_wh (fun q => jf_X5_placeOf_L2 a1 a2 q.1 q.2) jl_F (x3_1, M))

noncomputable def jf_X5_place (a1 : Int32) (a2 : Int32) (a3 : Int32) (M : jl_Mem) : Option (Int32 × jl_Mem) :=
  jl_bnd (jf_X5_isList a1 M) (fun r_2 M_2 =>
  if r_2 = 0 then (
  some ((-1 : Int32), M_2)) else (
  jl_bnd (jf_X5_isThing a2 M_2) (fun r_10 M_10 =>
  if r_10 = 0 then (
  some ((-1 : Int32), M_10)) else (
  jl_bnd (jf_X5_in a3 (0 : Int32) (1 : Int32) M_10) (fun r_19 M_19 =>
  if r_19 = 0 then (
  some ((-1 : Int32), M_19)) else (
  jl_chk (jl_inb (((20 : Int32) * a1) + a2) 80) (
  if (M_19 4 (((20 : Int32) * a1) + a2).toNatClampNeg) = 0 then (
  some ((-1 : Int32), M_19)) else (
  if a3 = 0 then (
  jl_bnd (jf_X5_placeOf a1 a2 M_19) (fun r_48 M_48 =>
  some (r_48, M_48))) else (
  some ((M_19 4 (((20 : Int32) * a1) + a2).toNatClampNeg), M_19))))))))))

noncomputable def jf_X5_totalOfHand_L6 (x1L6 : Int32) (x2L6 : Int32) (x3L6 : Int32) (ML6 : jl_Mem) : Option ((Int32 × Int32 × Int32 × jl_Mem) ⊕ (Int32 × jl_Mem)) :=
  if (ML6 0 2) ≤ x3L6 then (
  jl_ex (
  some (x1L6, ML6))) else (
  if (ML6 0 3) = 0 then (
  jl_chk (jl_inb x3L6 4) (
  jl_lt (x1L6 + ((ML6 1 x3L6.toNatClampNeg) * (ML6 7 x3L6.toNatClampNeg))) (fun (x1_36 : Int32) =>
  jl_lt (x3L6 + 1) (fun (x3_106 : Int32) =>
  some (.inl (x1_36, x2L6, x3_106, ML6)))))) else (
  jl_chk (jl_inb x3L6 4) (
  if (ML6 1 x3L6.toNatClampNeg) ≤ 0 then (
  jl_lt (x3L6 + 1) (fun (x3_106 : Int32) =>
  some (.inl (x1L6, x2L6, x3_106, ML6)))) else (
  if x2L6 = 0 then (
  jl_lt (ML6 7 x3L6.toNatClampNeg) (fun (x1_103 : Int32) =>
  jl_lt (1 : Int32) (fun (x2_105 : Int32) =>
  jl_lt (x3L6 + 1) (fun (x3_106 : Int32) =>
  some (.inl (x1_103, x2_105, x3_106, ML6)))))) else (
  if x1L6 ≤ (ML6 7 x3L6.toNatClampNeg) then (
  if (ML6 0 3) = (1 : Int32) then (
  jl_lt x1L6 (fun (x1_103 : Int32) =>
  jl_lt (1 : Int32) (fun (x2_105 : Int32) =>
  jl_lt (x3L6 + 1) (fun (x3_106 : Int32) =>
  some (.inl (x1_103, x2_105, x3_106, ML6)))))) else (
  jl_lt (ML6 7 x3L6.toNatClampNeg) (fun (x1_103 : Int32) =>
  jl_lt (1 : Int32) (fun (x2_105 : Int32) =>
  jl_lt (x3L6 + 1) (fun (x3_106 : Int32) =>
  some (.inl (x1_103, x2_105, x3_106, ML6))))))) else (
  if (ML6 0 3) = (1 : Int32) then (
  jl_lt (ML6 7 x3L6.toNatClampNeg) (fun (x1_103 : Int32) =>
  jl_lt (1 : Int32) (fun (x2_105 : Int32) =>
  jl_lt (x3L6 + 1) (fun (x3_106 : Int32) =>
  some (.inl (x1_103, x2_105, x3_106, ML6)))))) else (
  jl_lt x1L6 (fun (x1_103 : Int32) =>
  jl_lt (1 : Int32) (fun (x2_105 : Int32) =>
  jl_lt (x3L6 + 1) (fun (x3_106 : Int32) =>
  some (.inl (x1_103, x2_105, x3_106, ML6))))))))))))

noncomputable def jf_X5_totalOfHand (M : jl_Mem) : Option (Int32 × jl_Mem) :=
  jl_lt (0 : Int32) (fun (x1_1 : Int32) =>
  jl_lt (0 : Int32) (fun (x2_3 : Int32) =>
  jl_lt (0 : Int32) (fun (x3_5 : Int32) =>
  jl_wh (fun q => jf_X5_totalOfHand_L6 q.1 q.2.1 q.2.2.1 q.2.2.2) jl_F (x1_1, x2_3, x3_5, M))))

noncomputable def jf_X5_totalOf_L2 (a1 : Int32) (x2L2 : Int32) (ML2 : jl_Mem) : Option ((Int32 × jl_Mem) ⊕ (Int32 × jl_Mem)) :=
  if (ML2 0 2) ≤ x2L2 then (
  jl_ex (
  jl_bnd (jf_X5_totalOfHand ML2) (fun r_34 M_34 =>
  some (r_34, M_34)))) else (
  jl_chk (jl_inb (((20 : Int32) * x2L2) + a1) 80) (
  jl_chk (jl_inb x2L2 4) (
  jl_lt (jl_st ML2 7 x2L2.toNatClampNeg (ML2 4 (((20 : Int32) * x2L2) + a1).toNatClampNeg)) (fun (M_26 : jl_Mem) =>
  jl_lt (x2L2 + 1) (fun (x2_27 : Int32) =>
  some (.inl (x2_27, M_26)))))))

noncomputable def jf_X5_totalOf (a1 : Int32) (M : jl_Mem) : Option (Int32 × jl_Mem) :=
  jl_lt (0 : Int32) (fun (x2_1 : Int32) =>
  jl_wh (fun q => jf_X5_totalOf_L2 a1 q.1 q.2) jl_F (x2_1, M))

noncomputable def jf_X5_total (a1 : Int32) (M : jl_Mem) : Option (Int32 × jl_Mem) :=
  jl_bnd (jf_X5_isThing a1 M) (fun r_2 M_2 =>
  if r_2 = 0 then (
  some ((-1 : Int32), M_2)) else (
  jl_bnd (jf_X5_totalOf a1 M_2) (fun r_10 M_10 =>
  some (r_10, M_10))))

noncomputable def jf_X5_best_L25 (a1 : Int32) (x2L12 : Int32) (x3L25 : Int32) (x4L25 : Int32) (ML25 : jl_Mem) : Option ((Int32 × Int32 × jl_Mem) ⊕ ((Int32 × jl_Mem) ⊕ (Int32 × jl_Mem))) :=
  if (ML25 0 1) ≤ x4L25 then (
  jl_ex (
  if x3L25 = a1 then (
  jl_ex (
  some (x2L12, ML25))) else (
  jl_lt (x2L12 + 1) (fun (x2_89 : Int32) =>
  some (.inl (x2_89, ML25)))))) else (
  jl_bnd (jf_X5_totalOf x4L25 ML25) (fun r_38 M_38 =>
  jl_bnd (jf_X5_totalOf x2L12 M_38) (fun r_43 M_43 =>
  if r_43 < r_38 then (
  jl_lt (x3L25 + (1 : Int32)) (fun (x3_75 : Int32) =>
  jl_lt (x4L25 + 1) (fun (x4_76 : Int32) =>
  some (.inl (x3_75, x4_76, M_43))))) else (
  jl_bnd (jf_X5_totalOf x4L25 M_43) (fun r_52 M_52 =>
  jl_bnd (jf_X5_totalOf x2L12 M_52) (fun r_57 M_57 =>
  if r_52 = r_57 then (
  if x2L12 ≤ x4L25 then (
  jl_lt (x3L25 + (0 : Int32)) (fun (x3_75 : Int32) =>
  jl_lt (x4L25 + 1) (fun (x4_76 : Int32) =>
  some (.inl (x3_75, x4_76, M_57))))) else (
  jl_lt (x3L25 + (1 : Int32)) (fun (x3_75 : Int32) =>
  jl_lt (x4L25 + 1) (fun (x4_76 : Int32) =>
  some (.inl (x3_75, x4_76, M_57)))))) else (
  jl_lt (x3L25 + (0 : Int32)) (fun (x3_75 : Int32) =>
  jl_lt (x4L25 + 1) (fun (x4_76 : Int32) =>
  some (.inl (x3_75, x4_76, M_57)))))))))))

noncomputable def jf_X5_best_L12 (a1 : Int32) (x2L12 : Int32) (ML12 : jl_Mem) : Option ((Int32 × jl_Mem) ⊕ (Int32 × jl_Mem)) :=
  if (ML12 0 1) ≤ x2L12 then (
  jl_ex (
  some ((-1 : Int32), ML12))) else (
  jl_lt (0 : Int32) (fun (x3_21 : Int32) =>
  jl_lt (0 : Int32) (fun (x4_23 : Int32) =>
  jl_wh (fun q => jf_X5_best_L25 a1 x2L12 q.1 q.2.1 q.2.2) jl_F (x3_21, x4_23, ML12))))

noncomputable def jf_X5_best (a1 : Int32) (M : jl_Mem) : Option (Int32 × jl_Mem) :=
  jl_bnd (jf_X5_isThing a1 M) (fun r_2 M_2 =>
  if r_2 = 0 then (
  some ((-1 : Int32), M_2)) else (
  jl_lt (0 : Int32) (fun (x2_11 : Int32) =>
  jl_wh (fun q => jf_X5_best_L12 a1 q.1 q.2) jl_F (x2_11, M_2))))

noncomputable def jf_X5_isKnown (a1 : Int32) (a2 : Int32) (M : jl_Mem) : Option (Int32 × jl_Mem) :=
  jl_chk (jl_inb (((20 : Int32) * a1) + a2) 80) (
  if (M 9 (((20 : Int32) * a1) + a2).toNatClampNeg) = 0 then (
  jl_chk (jl_inb a1 4) (
  if (M 8 a1.toNatClampNeg) = (M 6 a1.toNatClampNeg) then (
  some ((1 : Int32), M)) else (
  if (M 4 (((20 : Int32) * a1) + a2).toNatClampNeg) ≤ 0 then (
  some ((0 : Int32), M)) else (
  jl_bnd (jf_X5_placeOf a1 a2 M) (fun r_48 M_48 =>
  if (M_48 8 a1.toNatClampNeg) ≤ r_48 then (
  some ((0 : Int32), M_48)) else (
  some ((1 : Int32), M_48))))))) else (
  some ((1 : Int32), M)))

noncomputable def jf_X5_topOf (a1 : Int32) (M : jl_Mem) : Option (Int32 × jl_Mem) :=
  jl_chk (jl_inb a1 4) (
  if (M 8 a1.toNatClampNeg) = (M 6 a1.toNatClampNeg) then (
  some ((0 : Int32), M)) else (
  if (M 8 a1.toNatClampNeg) = 0 then (
  some ((1000 : Int32), M)) else (
  jl_chk (jl_inb ((((20 : Int32) * a1) + (M 8 a1.toNatClampNeg)) - (1 : Int32)) 80) (
  jl_chk (jl_inb (((20 : Int32) * a1) + (M 5 ((((20 : Int32) * a1) + (M 8 a1.toNatClampNeg)) - (1 : Int32)).toNatClampNeg)) 80) (
  some ((M 4 (((20 : Int32) * a1) + (M 5 ((((20 : Int32) * a1) + (M 8 a1.toNatClampNeg)) - (1 : Int32)).toNatClampNeg)).toNatClampNeg), M))))))

noncomputable def jf_X5_boundOf_L2 (a1 : Int32) (a2 : Int32) (x3L2 : Int32) (ML2 : jl_Mem) : Option ((Int32 × jl_Mem) ⊕ (Int32 × jl_Mem)) :=
  if (ML2 0 2) ≤ x3L2 then (
  jl_ex (
  jl_bnd (jf_X5_totalOfHand ML2) (fun r_59 M_59 =>
  some (r_59, M_59)))) else (
  jl_bnd (jf_X5_isKnown x3L2 a1 ML2) (fun r_18 M_18 =>
  if r_18 = 0 then (
  if a2 = 0 then (
  jl_chk (jl_inb x3L2 4) (
  jl_lt (jl_st M_18 7 x3L2.toNatClampNeg (0 : Int32)) (fun (M_51 : jl_Mem) =>
  jl_lt (x3L2 + 1) (fun (x3_52 : Int32) =>
  some (.inl (x3_52, M_51)))))) else (
  jl_bnd (jf_X5_topOf x3L2 M_18) (fun r_44 M_44 =>
  jl_chk (jl_inb x3L2 4) (
  jl_lt (jl_st M_44 7 x3L2.toNatClampNeg r_44) (fun (M_51 : jl_Mem) =>
  jl_lt (x3L2 + 1) (fun (x3_52 : Int32) =>
  some (.inl (x3_52, M_51)))))))) else (
  jl_chk (jl_inb (((20 : Int32) * x3L2) + a1) 80) (
  jl_chk (jl_inb x3L2 4) (
  jl_lt (jl_st M_18 7 x3L2.toNatClampNeg (M_18 4 (((20 : Int32) * x3L2) + a1).toNatClampNeg)) (fun (M_51 : jl_Mem) =>
  jl_lt (x3L2 + 1) (fun (x3_52 : Int32) =>
  some (.inl (x3_52, M_51)))))))))

noncomputable def jf_X5_boundOf (a1 : Int32) (a2 : Int32) (M : jl_Mem) : Option (Int32 × jl_Mem) :=
  jl_lt (0 : Int32) (fun (x3_1 : Int32) =>
  jl_wh (fun q => jf_X5_boundOf_L2 a1 a2 q.1 q.2) jl_F (x3_1, M))

noncomputable def jf_X5_isAhead (a1 : Int32) (a2 : Int32) (M : jl_Mem) : Option (Int32 × jl_Mem) :=
  jl_bnd (jf_X5_boundOf a1 (0 : Int32) M) (fun r_3 M_3 =>
  jl_lt r_3 (fun (x3_6 : Int32) =>
  jl_bnd (jf_X5_boundOf a2 (1 : Int32) M_3) (fun r_10 M_10 =>
  jl_lt r_10 (fun (x4_13 : Int32) =>
  if x4_13 < x3_6 then (
  some ((1 : Int32), M_10)) else (
  if x3_6 = x4_13 then (
  if a2 ≤ a1 then (
  some ((0 : Int32), M_10)) else (
  some ((1 : Int32), M_10))) else (
  some ((0 : Int32), M_10)))))))

noncomputable def jf_X5_isSure_L150 (x2L140 : Int32) (x3L150 : Int32) (ML150 : jl_Mem) : Option ((Int32 × jl_Mem) ⊕ ((Int32 × jl_Mem) ⊕ (Int32 × jl_Mem))) :=
  if (ML150 0 1) ≤ x3L150 then (
  jl_ex (
  jl_lt (x2L140 + 1) (fun (x2_219 : Int32) =>
  some (.inl (x2_219, ML150))))) else (
  jl_chk (jl_inb x2L140 20) (
  if (ML150 10 x2L140.toNatClampNeg) = 0 then (
  jl_lt (x3L150 + 1) (fun (x3_213 : Int32) =>
  some (.inl (x3_213, ML150)))) else (
  jl_chk (jl_inb x3L150 20) (
  if (ML150 10 x3L150.toNatClampNeg) = 0 then (
  if (ML150 11 x2L140.toNatClampNeg) < (ML150 12 x3L150.toNatClampNeg) then (
  jl_ex (
  jl_ex (
  some ((0 : Int32), ML150)))) else (
  if (ML150 11 x2L140.toNatClampNeg) = (ML150 12 x3L150.toNatClampNeg) then (
  if x2L140 ≤ x3L150 then (
  jl_lt (x3L150 + 1) (fun (x3_213 : Int32) =>
  some (.inl (x3_213, ML150)))) else (
  jl_ex (
  jl_ex (
  some ((0 : Int32), ML150))))) else (
  jl_lt (x3L150 + 1) (fun (x3_213 : Int32) =>
  some (.inl (x3_213, ML150)))))) else (
  jl_lt (x3L150 + 1) (fun (x3_213 : Int32) =>
  some (.inl (x3_213, ML150))))))))

noncomputable def jf_X5_isSure_L140 (x2L140 : Int32) (ML140 : jl_Mem) : Option ((Int32 × jl_Mem) ⊕ (Int32 × jl_Mem)) :=
  if (ML140 0 1) ≤ x2L140 then (
  jl_ex (
  some ((1 : Int32), ML140))) else (
  jl_lt (0 : Int32) (fun (x3_149 : Int32) =>
  jl_wh (fun q => jf_X5_isSure_L150 x2L140 q.1 q.2) jl_F (x3_149, ML140)))

noncomputable def jf_X5_isSure_L55 (a1 : Int32) (x2L42 : Int32) (x3L55 : Int32) (x4L55 : Int32) (ML55 : jl_Mem) : Option ((Int32 × Int32 × jl_Mem) ⊕ ((Int32 × jl_Mem) ⊕ (Int32 × jl_Mem))) :=
  if (ML55 0 1) ≤ x4L55 then (
  jl_ex (
  if a1 ≤ x3L55 then (
  jl_chk (jl_inb x2L42 20) (
  jl_lt (jl_st ML55 10 x2L42.toNatClampNeg (0 : Int32)) (fun (M_131 : jl_Mem) =>
  jl_lt (x2L42 + 1) (fun (x2_132 : Int32) =>
  some (.inl (x2_132, M_131)))))) else (
  jl_chk (jl_inb x2L42 20) (
  jl_lt (jl_st ML55 10 x2L42.toNatClampNeg (1 : Int32)) (fun (M_131 : jl_Mem) =>
  jl_lt (x2L42 + 1) (fun (x2_132 : Int32) =>
  some (.inl (x2_132, M_131)))))))) else (
  jl_chk (jl_inb x4L55 20) (
  jl_chk (jl_inb x2L42 20) (
  if (ML55 11 x2L42.toNatClampNeg) < (ML55 11 x4L55.toNatClampNeg) then (
  jl_lt (x3L55 + (1 : Int32)) (fun (x3_109 : Int32) =>
  jl_lt (x4L55 + 1) (fun (x4_110 : Int32) =>
  some (.inl (x3_109, x4_110, ML55))))) else (
  if (ML55 11 x4L55.toNatClampNeg) = (ML55 11 x2L42.toNatClampNeg) then (
  if x2L42 ≤ x4L55 then (
  jl_lt (x3L55 + (0 : Int32)) (fun (x3_109 : Int32) =>
  jl_lt (x4L55 + 1) (fun (x4_110 : Int32) =>
  some (.inl (x3_109, x4_110, ML55))))) else (
  jl_lt (x3L55 + (1 : Int32)) (fun (x3_109 : Int32) =>
  jl_lt (x4L55 + 1) (fun (x4_110 : Int32) =>
  some (.inl (x3_109, x4_110, ML55)))))) else (
  jl_lt (x3L55 + (0 : Int32)) (fun (x3_109 : Int32) =>
  jl_lt (x4L55 + 1) (fun (x4_110 : Int32) =>
  some (.inl (x3_109, x4_110, ML55)))))))))

noncomputable def jf_X5_isSure_L42 (a1 : Int32) (x2L42 : Int32) (ML42 : jl_Mem) : Option ((Int32 × jl_Mem) ⊕ (Int32 × jl_Mem)) :=
  if (ML42 0 1) ≤ x2L42 then (
  jl_ex (
  jl_lt (0 : Int32) (fun (x2_139 : Int32) =>
  jl_wh (fun q => jf_X5_isSure_L140 q.1 q.2) jl_F (x2_139, ML42)))) else (
  jl_lt (0 : Int32) (fun (x3_51 : Int32) =>
  jl_lt (0 : Int32) (fun (x4_53 : Int32) =>
  jl_wh (fun q => jf_X5_isSure_L55 a1 x2L42 q.1 q.2.1 q.2.2) jl_F (x3_51, x4_53, ML42))))

noncomputable def jf_X5_isSure_L2 (a1 : Int32) (x2L2 : Int32) (ML2 : jl_Mem) : Option ((Int32 × jl_Mem) ⊕ (Int32 × jl_Mem)) :=
  if (ML2 0 1) ≤ x2L2 then (
  jl_ex (
  jl_lt (0 : Int32) (fun (x2_41 : Int32) =>
  jl_wh (fun q => jf_X5_isSure_L42 a1 q.1 q.2) jl_F (x2_41, ML2)))) else (
  jl_bnd (jf_X5_boundOf x2L2 (0 : Int32) ML2) (fun r_18 M_18 =>
  jl_chk (jl_inb x2L2 20) (
  jl_lt (jl_st M_18 11 x2L2.toNatClampNeg r_18) (fun (M_21 : jl_Mem) =>
  jl_bnd (jf_X5_boundOf x2L2 (1 : Int32) M_21) (fun r_30 M_30 =>
  jl_lt (jl_st M_30 12 x2L2.toNatClampNeg r_30) (fun (M_33 : jl_Mem) =>
  jl_lt (x2L2 + 1) (fun (x2_34 : Int32) =>
  some (.inl (x2_34, M_33)))))))))

noncomputable def jf_X5_isSure (a1 : Int32) (M : jl_Mem) : Option (Int32 × jl_Mem) :=
  jl_lt (0 : Int32) (fun (x2_1 : Int32) =>
  jl_wh (fun q => jf_X5_isSure_L2 a1 q.1 q.2) jl_F (x2_1, M))

noncomputable def jf_X5_looks_L14 (x1L14 : Int32) (ML14 : jl_Mem) : Option ((Int32 × jl_Mem) ⊕ (Int32 × jl_Mem)) :=
  if (20 : Int32) ≤ x1L14 then (
  jl_ex (
  jl_chk (jl_isB (ML14 0 24)) (
  some ((ML14 0 24), ML14)))) else (
  jl_chk (jl_inb x1L14 20) (
  jl_chk (jl_isB (ML14 10 x1L14.toNatClampNeg)) (
  jl_lt (jl_st ML14 13 x1L14.toNatClampNeg (ML14 10 x1L14.toNatClampNeg)) (fun (M_31 : jl_Mem) =>
  jl_lt (x1L14 + 1) (fun (x1_32 : Int32) =>
  some (.inl (x1_32, M_31)))))))

noncomputable def jf_X5_looks (M : jl_Mem) : Option (Int32 × jl_Mem) :=
  jl_bnd (jf_X5_isSure (M 0 18) M) (fun r_6 M_6 =>
  jl_chk (jl_isB r_6) (
  jl_lt (jl_st M_6 0 24 r_6) (fun (M_9 : jl_Mem) =>
  jl_lt (0 : Int32) (fun (x1_13 : Int32) =>
  jl_wh (fun q => jf_X5_looks_L14 q.1 q.2) jl_F (x1_13, M_9)))))

noncomputable def jf_X5_clear_L22 (x1L22 : Int32) (ML22 : jl_Mem) : Option ((Int32 × jl_Mem) ⊕ (Int32 × jl_Mem)) :=
  if (80 : Int32) ≤ x1L22 then (
  jl_ex (
  some (0, ML22))) else (
  jl_chk (jl_inb x1L22 80) (
  jl_lt (jl_st ML22 9 x1L22.toNatClampNeg (0 : Int32)) (fun (M_34 : jl_Mem) =>
  jl_lt (x1L22 + 1) (fun (x1_35 : Int32) =>
  some (.inl (x1_35, M_34))))))

noncomputable def jf_X5_clear_L2 (x1L2 : Int32) (ML2 : jl_Mem) : Option ((Int32 × jl_Mem) ⊕ (Int32 × jl_Mem)) :=
  if (4 : Int32) ≤ x1L2 then (
  jl_ex (
  jl_lt (0 : Int32) (fun (x1_21 : Int32) =>
  jl_wh (fun q => jf_X5_clear_L22 q.1 q.2) jl_F (x1_21, ML2)))) else (
  jl_chk (jl_inb x1L2 4) (
  jl_lt (jl_st ML2 8 x1L2.toNatClampNeg (0 : Int32)) (fun (M_13 : jl_Mem) =>
  jl_lt (x1L2 + 1) (fun (x1_14 : Int32) =>
  some (.inl (x1_14, M_13))))))

noncomputable def jf_X5_clear (M : jl_Mem) : Option (Int32 × jl_Mem) :=
  jl_lt (0 : Int32) (fun (x1_1 : Int32) =>
  jl_wh (fun q => jf_X5_clear_L2 q.1 q.2) jl_F (x1_1, M))

noncomputable def jf_X5_begin (a1 : Int32) (a2 : Int32) (a3 : Int32) (M : jl_Mem) : Option (Int32 × jl_Mem) :=
  jl_bnd (jf_X5_in a2 (1 : Int32) (M 0 1) M) (fun r_6 M_6 =>
  if r_6 = 0 then (
  some ((-2 : Int32), M_6)) else (
  jl_bnd (jf_X5_in a1 (0 : Int32) (2 : Int32) M_6) (fun r_15 M_15 =>
  if r_15 = 0 then (
  some ((-2 : Int32), M_15)) else (
  if a1 = (2 : Int32) then (
  jl_bnd (jf_X5_in a3 (1 : Int32) (10 : Int32) M_15) (fun r_30 M_30 =>
  if r_30 = 0 then (
  some ((-2 : Int32), M_30)) else (
  jl_lt (jl_st M_30 0 16 (1 : Int32)) (fun (M_48 : jl_Mem) =>
  jl_lt (jl_st M_48 0 17 a1) (fun (M_53 : jl_Mem) =>
  jl_lt (jl_st M_53 0 18 a2) (fun (M_58 : jl_Mem) =>
  jl_lt (jl_st M_58 0 19 a3) (fun (M_63 : jl_Mem) =>
  jl_lt (jl_st M_63 0 20 (0 : Int32)) (fun (M_68 : jl_Mem) =>
  jl_lt (jl_st M_68 0 21 (0 : Int32)) (fun (M_73 : jl_Mem) =>
  jl_lt (jl_st M_73 0 22 (0 : Int32)) (fun (M_78 : jl_Mem) =>
  jl_lt (jl_st M_78 0 23 (0 : Int32)) (fun (M_83 : jl_Mem) =>
  jl_bnd (jf_X5_clear M_83) (fun r_87 M_87 =>
  jl_bnd (jf_X5_looks M_87) (fun r_91 M_91 =>
  if r_91 = 0 then (
  some ((0 : Int32), M_91)) else (
  some ((1 : Int32), M_91))))))))))))))) else (
  if a3 = 0 then (
  jl_lt (jl_st M_15 0 16 (1 : Int32)) (fun (M_48 : jl_Mem) =>
  jl_lt (jl_st M_48 0 17 a1) (fun (M_53 : jl_Mem) =>
  jl_lt (jl_st M_53 0 18 a2) (fun (M_58 : jl_Mem) =>
  jl_lt (jl_st M_58 0 19 a3) (fun (M_63 : jl_Mem) =>
  jl_lt (jl_st M_63 0 20 (0 : Int32)) (fun (M_68 : jl_Mem) =>
  jl_lt (jl_st M_68 0 21 (0 : Int32)) (fun (M_73 : jl_Mem) =>
  jl_lt (jl_st M_73 0 22 (0 : Int32)) (fun (M_78 : jl_Mem) =>
  jl_lt (jl_st M_78 0 23 (0 : Int32)) (fun (M_83 : jl_Mem) =>
  jl_bnd (jf_X5_clear M_83) (fun r_87 M_87 =>
  jl_bnd (jf_X5_looks M_87) (fun r_91 M_91 =>
  if r_91 = 0 then (
  some ((0 : Int32), M_91)) else (
  some ((1 : Int32), M_91))))))))))))) else (
  some ((-2 : Int32), M_15)))))))

noncomputable def jf_X5_looksUp_L2 (a1 : Int32) (x2L2 : Int32) (ML2 : jl_Mem) : Option ((Int32 × jl_Mem) ⊕ (Int32 × jl_Mem)) :=
  if (ML2 0 2) ≤ x2L2 then (
  jl_ex (
  some ((0 : Int32), ML2))) else (
  jl_chk (jl_inb x2L2 4) (
  if (ML2 3 x2L2.toNatClampNeg) = 0 then (
  jl_lt (x2L2 + 1) (fun (x2_77 : Int32) =>
  some (.inl (x2_77, ML2)))) else (
  jl_bnd (jf_X5_isKnown x2L2 a1 ML2) (fun r_22 M_22 =>
  if r_22 = 0 then (
  jl_chk (jl_inb (((20 : Int32) * x2L2) + a1) 80) (
  jl_lt (jl_st M_22 9 (((20 : Int32) * x2L2) + a1).toNatClampNeg (1 : Int32)) (fun (M_42 : jl_Mem) =>
  jl_lt (jl_st M_42 0 22 ((M_42 0 22) + (1 : Int32))) (fun (M_50 : jl_Mem) =>
  jl_lt (jl_st M_50 0 23 ((M_50 0 23) + (M_50 3 x2L2.toNatClampNeg))) (fun (M_65 : jl_Mem) =>
  jl_bnd (jf_X5_looks M_65) (fun r_69 M_69 =>
  if r_69 = 0 then (
  jl_lt (x2L2 + 1) (fun (x2_77 : Int32) =>
  some (.inl (x2_77, M_69)))) else (
  jl_ex (
  some ((1 : Int32), M_69))))))))) else (
  jl_lt (x2L2 + 1) (fun (x2_77 : Int32) =>
  some (.inl (x2_77, M_22))))))))

noncomputable def jf_X5_looksUp (a1 : Int32) (M : jl_Mem) : Option (Int32 × jl_Mem) :=
  jl_lt (0 : Int32) (fun (x2_1 : Int32) =>
  jl_wh (fun q => jf_X5_looksUp_L2 a1 q.1 q.2) jl_F (x2_1, M))

noncomputable def jf_X5_isSeen_L2 (a1 : Int32) (x2L2 : Int32) (ML2 : jl_Mem) : Option ((Int32 × jl_Mem) ⊕ (Int32 × jl_Mem)) :=
  if (ML2 0 2) ≤ x2L2 then (
  jl_ex (
  some ((0 : Int32), ML2))) else (
  jl_chk (jl_inb (((20 : Int32) * x2L2) + a1) 80) (
  if (ML2 4 (((20 : Int32) * x2L2) + a1).toNatClampNeg) ≤ 0 then (
  jl_lt (x2L2 + 1) (fun (x2_41 : Int32) =>
  some (.inl (x2_41, ML2)))) else (
  jl_bnd (jf_X5_placeOf x2L2 a1 ML2) (fun r_27 M_27 =>
  jl_chk (jl_inb x2L2 4) (
  if (M_27 8 x2L2.toNatClampNeg) ≤ r_27 then (
  jl_lt (x2L2 + 1) (fun (x2_41 : Int32) =>
  some (.inl (x2_41, M_27)))) else (
  jl_ex (
  some ((1 : Int32), M_27))))))))

noncomputable def jf_X5_isSeen (a1 : Int32) (M : jl_Mem) : Option (Int32 × jl_Mem) :=
  jl_lt (0 : Int32) (fun (x2_1 : Int32) =>
  jl_wh (fun q => jf_X5_isSeen_L2 a1 q.1 q.2) jl_F (x2_1, M))

noncomputable def jf_X5_isOpen_L2 (a1 : Int32) (x2L2 : Int32) (ML2 : jl_Mem) : Option ((Int32 × jl_Mem) ⊕ (Int32 × jl_Mem)) :=
  if (ML2 0 2) ≤ x2L2 then (
  jl_ex (
  some ((0 : Int32), ML2))) else (
  jl_chk (jl_inb x2L2 4) (
  if (ML2 3 x2L2.toNatClampNeg) ≤ 0 then (
  jl_lt (x2L2 + 1) (fun (x2_30 : Int32) =>
  some (.inl (x2_30, ML2)))) else (
  jl_bnd (jf_X5_isKnown x2L2 a1 ML2) (fun r_22 M_22 =>
  if r_22 = 0 then (
  jl_ex (
  some ((1 : Int32), M_22))) else (
  jl_lt (x2L2 + 1) (fun (x2_30 : Int32) =>
  some (.inl (x2_30, M_22))))))))

noncomputable def jf_X5_isOpen (a1 : Int32) (M : jl_Mem) : Option (Int32 × jl_Mem) :=
  jl_lt (0 : Int32) (fun (x2_1 : Int32) =>
  jl_wh (fun q => jf_X5_isOpen_L2 a1 q.1 q.2) jl_F (x2_1, M))

noncomputable def jf_X5_works_L145 (x1L145 : Int32) (x2L145 : Int32) (ML145 : jl_Mem) : Option ((Int32 × Int32 × jl_Mem) ⊕ (Int32 × jl_Mem)) :=
  if (ML145 0 1) ≤ x2L145 then (
  jl_ex (
  if x1L145 = (-1 : Int32) then (
  some (0, ML145)) else (
  jl_bnd (jf_X5_looksUp x1L145 ML145) (fun r_204 M_204 =>
  if r_204 = 0 then (
  some (0, M_204)) else (
  some (0, M_204)))))) else (
  jl_bnd (jf_X5_isSeen x2L145 ML145) (fun r_155 M_155 =>
  if r_155 = 0 then (
  jl_lt (x2L145 + 1) (fun (x2_191 : Int32) =>
  some (.inl (x1L145, x2_191, M_155)))) else (
  jl_bnd (jf_X5_isOpen x2L145 M_155) (fun r_163 M_163 =>
  if r_163 = 0 then (
  jl_lt (x2L145 + 1) (fun (x2_191 : Int32) =>
  some (.inl (x1L145, x2_191, M_163)))) else (
  if x1L145 = (-1 : Int32) then (
  jl_lt x2L145 (fun (x1_190 : Int32) =>
  jl_lt (x2L145 + 1) (fun (x2_191 : Int32) =>
  some (.inl (x1_190, x2_191, M_163))))) else (
  jl_bnd (jf_X5_boundOf x2L145 (1 : Int32) M_163) (fun r_177 M_177 =>
  jl_bnd (jf_X5_boundOf x1L145 (1 : Int32) M_177) (fun r_183 M_183 =>
  if r_177 ≤ r_183 then (
  jl_lt (x2L145 + 1) (fun (x2_191 : Int32) =>
  some (.inl (x1L145, x2_191, M_183)))) else (
  jl_lt x2L145 (fun (x1_190 : Int32) =>
  jl_lt (x2L145 + 1) (fun (x2_191 : Int32) =>
  some (.inl (x1_190, x2_191, M_183)))))))))))))

noncomputable def jf_X5_works_L12 (x1L12 : Int32) (ML12 : jl_Mem) : Option ((Int32 × jl_Mem) ⊕ (Int32 × jl_Mem)) :=
  if (ML12 0 2) ≤ x1L12 then (
  jl_ex (
  if (ML12 0 17) < (2 : Int32) then (
  some (0, ML12)) else (
  jl_chk (jl_nz (ML12 0 19)) (
  if ((ML12 0 20) - (ML12 0 20) / (ML12 0 19) * (ML12 0 19)) = 0 then (
  jl_lt (-1 : Int32) (fun (x1_142 : Int32) =>
  jl_lt (0 : Int32) (fun (x2_144 : Int32) =>
  jl_wh (fun q => jf_X5_works_L145 q.1 q.2.1 q.2.2) jl_F (x1_142, x2_144, ML12)))) else (
  some (0, ML12)))))) else (
  jl_chk (jl_inb x1L12 4) (
  if (ML12 8 x1L12.toNatClampNeg) = (ML12 6 x1L12.toNatClampNeg) then (
  jl_lt (x1L12 + 1) (fun (x1_114 : Int32) =>
  some (.inl (x1_114, ML12)))) else (
  jl_chk (jl_inb (((20 : Int32) * x1L12) + (ML12 8 x1L12.toNatClampNeg)) 80) (
  jl_lt (ML12 5 (((20 : Int32) * x1L12) + (ML12 8 x1L12.toNatClampNeg)).toNatClampNeg) (fun (x2_54 : Int32) =>
  jl_lt (jl_st ML12 8 x1L12.toNatClampNeg ((ML12 8 x1L12.toNatClampNeg) + (1 : Int32))) (fun (M_64 : jl_Mem) =>
  jl_lt (jl_st M_64 0 21 ((M_64 0 21) + (1 : Int32))) (fun (M_72 : jl_Mem) =>
  jl_lt (jl_st M_72 0 23 ((M_72 0 23) + (M_72 2 x1L12.toNatClampNeg))) (fun (M_87 : jl_Mem) =>
  jl_bnd (jf_X5_looks M_87) (fun r_91 M_91 =>
  if r_91 = 0 then (
  if (M_91 0 17) = (1 : Int32) then (
  jl_bnd (jf_X5_looksUp x2_54 M_91) (fun r_107 M_107 =>
  if r_107 = 0 then (
  jl_lt (x1L12 + 1) (fun (x1_114 : Int32) =>
  some (.inl (x1_114, M_107)))) else (
  jl_ex (
  some (0, M_107))))) else (
  jl_lt (x1L12 + 1) (fun (x1_114 : Int32) =>
  some (.inl (x1_114, M_91))))) else (
  jl_ex (
  some (0, M_91))))))))))))

noncomputable def jf_X5_works (M : jl_Mem) : Option (Int32 × jl_Mem) :=
  jl_lt (jl_st M 0 20 ((M 0 20) + (1 : Int32))) (fun (M_7 : jl_Mem) =>
  jl_lt (0 : Int32) (fun (x1_11 : Int32) =>
  jl_wh (fun q => jf_X5_works_L12 q.1 q.2) jl_F (x1_11, M_7)))

noncomputable def jf_X5_round (M : jl_Mem) : Option (Int32 × jl_Mem) :=
  if (M 0 16) = 0 then (
  some ((-1 : Int32), M)) else (
  if (M 0 24) = 0 then (
  jl_bnd (jf_X5_works M) (fun r_20 M_20 =>
  if (M_20 0 24) = 0 then (
  some ((0 : Int32), M_20)) else (
  some ((1 : Int32), M_20)))) else (
  some ((-3 : Int32), M)))

noncomputable def jf_X5_finish_L24 (x1_23 : Int32) (ML24 : jl_Mem) : Option ((jl_Mem) ⊕ (Int32 × jl_Mem)) :=
  if (ML24 0 24) = 0 then (
  jl_bnd (jf_X5_works ML24) (fun r_32 M_32 =>
  some (.inl M_32))) else (
  jl_ex (
  some (((ML24 0 20) - x1_23), ML24)))

noncomputable def jf_X5_finish (M : jl_Mem) : Option (Int32 × jl_Mem) :=
  if (M 0 16) = 0 then (
  some ((-1 : Int32), M)) else (
  if (M 0 24) = 0 then (
  jl_lt (M 0 20) (fun (x1_23 : Int32) =>
  jl_wh (fun q => jf_X5_finish_L24 x1_23 q) jl_F M)) else (
  some ((-3 : Int32), M)))

noncomputable def jf_X5_reader_L123 (x2L105 : Int32) (x3L105 : Int32) (x4L123 : Int32) (x5L123 : Int32) (ML123 : jl_Mem) : Option ((Int32 × Int32 × jl_Mem) ⊕ ((Int32 × Int32 × jl_Mem) ⊕ (Int32 × jl_Mem))) :=
  if (ML123 0 2) ≤ x5L123 then (
  jl_ex (
  if x4L123 = 0 then (
  jl_lt (x2L105 + (0 : Int32)) (fun (x2_177 : Int32) =>
  jl_lt (x3L105 + 1) (fun (x3_178 : Int32) =>
  some (.inl (x2_177, x3_178, ML123))))) else (
  jl_lt (x2L105 + (1 : Int32)) (fun (x2_177 : Int32) =>
  jl_lt (x3L105 + 1) (fun (x3_178 : Int32) =>
  some (.inl (x2_177, x3_178, ML123))))))) else (
  if x4L123 = 0 then (
  jl_chk (jl_inb (((20 : Int32) * x5L123) + x3L105) 80) (
  if (ML123 9 (((20 : Int32) * x5L123) + x3L105).toNatClampNeg) = 0 then (
  jl_lt (0 : Int32) (fun (x4_157 : Int32) =>
  jl_lt (x5L123 + 1) (fun (x5_159 : Int32) =>
  some (.inl (x4_157, x5_159, ML123))))) else (
  jl_lt (1 : Int32) (fun (x4_157 : Int32) =>
  jl_lt (x5L123 + 1) (fun (x5_159 : Int32) =>
  some (.inl (x4_157, x5_159, ML123))))))) else (
  jl_lt (1 : Int32) (fun (x4_157 : Int32) =>
  jl_lt (x5L123 + 1) (fun (x5_159 : Int32) =>
  some (.inl (x4_157, x5_159, ML123))))))

noncomputable def jf_X5_reader_L105 (x2L105 : Int32) (x3L105 : Int32) (ML105 : jl_Mem) : Option ((Int32 × Int32 × jl_Mem) ⊕ (Int32 × jl_Mem)) :=
  if (ML105 0 1) ≤ x3L105 then (
  jl_ex (
  some (x2L105, ML105))) else (
  jl_bnd (jf_X5_isSeen x3L105 ML105) (fun r_115 M_115 =>
  jl_lt r_115 (fun (x4_118 : Int32) =>
  jl_lt (0 : Int32) (fun (x5_121 : Int32) =>
  jl_wh (fun q => jf_X5_reader_L123 x2L105 x3L105 q.1 q.2.1 q.2.2) jl_F (x4_118, x5_121, M_115)))))

noncomputable def jf_X5_reader (a1 : Int32) (M : jl_Mem) : Option (Int32 × jl_Mem) :=
  if (M 0 16) = 0 then (
  some ((-1 : Int32), M)) else (
  jl_lt (0 : Int32) (fun (x2_10 : Int32) =>
  if a1 = 0 then (
  some ((M 0 17), M)) else (
  if a1 = 1 then (
  some ((M 0 18), M)) else (
  if a1 = 2 then (
  some ((M 0 20), M)) else (
  if a1 = 3 then (
  some ((M 0 21), M)) else (
  if a1 = 4 then (
  some ((M 0 22), M)) else (
  if a1 = 5 then (
  some ((M 0 23), M)) else (
  if a1 = 6 then (
  if (M 0 24) = 0 then (
  some ((0 : Int32), M)) else (
  some ((1 : Int32), M))) else (
  if a1 = 7 then (
  jl_lt (0 : Int32) (fun (x3_104 : Int32) =>
  jl_wh (fun q => jf_X5_reader_L105 q.1 q.2.1 q.2.2) jl_F (x2_10, x3_104, M))) else (
  some ((-1 : Int32), M)))))))))))

noncomputable def jf_X5_depth (a1 : Int32) (a2 : Int32) (M : jl_Mem) : Option (Int32 × jl_Mem) :=
  if (M 0 16) = 0 then (
  some ((-1 : Int32), M)) else (
  jl_bnd (jf_X5_isList a1 M) (fun r_9 M_9 =>
  if r_9 = 0 then (
  some ((-1 : Int32), M_9)) else (
  if a2 = 0 then (
  jl_chk (jl_inb a1 4) (
  some ((M_9 8 a1.toNatClampNeg), M_9))) else (
  if a2 = (1 : Int32) then (
  jl_bnd (jf_X5_topOf a1 M_9) (fun r_37 M_37 =>
  some (r_37, M_37))) else (
  some ((-1 : Int32), M_9))))))

noncomputable def jf_X5_known (a1 : Int32) (a2 : Int32) (M : jl_Mem) : Option (Int32 × jl_Mem) :=
  if (M 0 16) = 0 then (
  some ((-1 : Int32), M)) else (
  jl_bnd (jf_X5_isList a1 M) (fun r_9 M_9 =>
  if r_9 = 0 then (
  some ((-1 : Int32), M_9)) else (
  jl_bnd (jf_X5_isThing a2 M_9) (fun r_17 M_17 =>
  if r_17 = 0 then (
  some ((-1 : Int32), M_17)) else (
  jl_bnd (jf_X5_isKnown a1 a2 M_17) (fun r_28 M_28 =>
  if r_28 = 0 then (
  some ((0 : Int32), M_28)) else (
  some ((1 : Int32), M_28))))))))

noncomputable def jf_X5_bound (a1 : Int32) (a2 : Int32) (M : jl_Mem) : Option (Int32 × jl_Mem) :=
  if (M 0 16) = 0 then (
  some ((-1 : Int32), M)) else (
  jl_bnd (jf_X5_isThing a1 M) (fun r_9 M_9 =>
  if r_9 = 0 then (
  some ((-1 : Int32), M_9)) else (
  jl_bnd (jf_X5_in a2 (0 : Int32) (1 : Int32) M_9) (fun r_20 M_20 =>
  if r_20 = 0 then (
  some ((-2 : Int32), M_20)) else (
  if a2 = (1 : Int32) then (
  jl_bnd (jf_X5_boundOf a1 (1 : Int32) M_20) (fun r_38 M_38 =>
  some (r_38, M_38))) else (
  jl_bnd (jf_X5_boundOf a1 (0 : Int32) M_20) (fun r_38 M_38 =>
  some (r_38, M_38))))))))

noncomputable def jf_X5_ahead (a1 : Int32) (a2 : Int32) (M : jl_Mem) : Option (Int32 × jl_Mem) :=
  if (M 0 16) = 0 then (
  some ((-1 : Int32), M)) else (
  jl_bnd (jf_X5_isThing a1 M) (fun r_9 M_9 =>
  if r_9 = 0 then (
  some ((-1 : Int32), M_9)) else (
  jl_bnd (jf_X5_isThing a2 M_9) (fun r_17 M_17 =>
  if r_17 = 0 then (
  some ((-1 : Int32), M_17)) else (
  if a1 = a2 then (
  some ((-2 : Int32), M_17)) else (
  jl_bnd (jf_X5_isAhead a1 a2 M_17) (fun r_36 M_36 =>
  if r_36 = 0 then (
  some ((0 : Int32), M_36)) else (
  some ((1 : Int32), M_36)))))))))

noncomputable def jf_X5_found_L37 (a1 : Int32) (x2L37 : Int32) (x3L37 : Int32) (ML37 : jl_Mem) : Option ((Int32 × Int32 × jl_Mem) ⊕ (Int32 × jl_Mem)) :=
  if (ML37 0 1) ≤ x3L37 then (
  jl_ex (
  some ((-1 : Int32), ML37))) else (
  jl_chk (jl_inb x3L37 20) (
  if (ML37 13 x3L37.toNatClampNeg) = 0 then (
  jl_lt (x3L37 + 1) (fun (x3_67 : Int32) =>
  some (.inl (x2L37, x3_67, ML37)))) else (
  if x2L37 = a1 then (
  jl_ex (
  some (x3L37, ML37))) else (
  jl_lt (x2L37 + 1) (fun (x2_64 : Int32) =>
  jl_lt (x3L37 + 1) (fun (x3_67 : Int32) =>
  some (.inl (x2_64, x3_67, ML37))))))))

noncomputable def jf_X5_found (a1 : Int32) (M : jl_Mem) : Option (Int32 × jl_Mem) :=
  if (M 0 16) = 0 then (
  some ((-1 : Int32), M)) else (
  jl_bnd (jf_X5_in a1 (0 : Int32) ((M 0 18) - (1 : Int32)) M) (fun r_15 M_15 =>
  if r_15 = 0 then (
  some ((-1 : Int32), M_15)) else (
  if (M_15 0 24) = 0 then (
  some ((-3 : Int32), M_15)) else (
  jl_lt (0 : Int32) (fun (x2_34 : Int32) =>
  jl_lt (0 : Int32) (fun (x3_36 : Int32) =>
  jl_wh (fun q => jf_X5_found_L37 a1 q.1 q.2.1 q.2.2) jl_F (x2_34, x3_36, M_15)))))))

noncomputable def jf_X5_aside_L27 (x1L27 : Int32) (ML27 : jl_Mem) : Option ((Int32 × jl_Mem) ⊕ (Int32 × jl_Mem)) :=
  if (80 : Int32) ≤ x1L27 then (
  jl_ex (
  jl_bnd (jf_X5_clear ML27) (fun r_52 M_52 =>
  some (0, M_52)))) else (
  jl_chk (jl_inb x1L27 80) (
  jl_chk (jl_isB (ML27 9 x1L27.toNatClampNeg)) (
  jl_lt (jl_st ML27 15 x1L27.toNatClampNeg (ML27 9 x1L27.toNatClampNeg)) (fun (M_44 : jl_Mem) =>
  jl_lt (x1L27 + 1) (fun (x1_45 : Int32) =>
  some (.inl (x1_45, M_44)))))))

noncomputable def jf_X5_aside_L2 (x1L2 : Int32) (ML2 : jl_Mem) : Option ((Int32 × jl_Mem) ⊕ (Int32 × jl_Mem)) :=
  if (4 : Int32) ≤ x1L2 then (
  jl_ex (
  jl_lt (0 : Int32) (fun (x1_26 : Int32) =>
  jl_wh (fun q => jf_X5_aside_L27 q.1 q.2) jl_F (x1_26, ML2)))) else (
  jl_chk (jl_inb x1L2 4) (
  jl_lt (jl_st ML2 14 x1L2.toNatClampNeg (ML2 8 x1L2.toNatClampNeg)) (fun (M_18 : jl_Mem) =>
  jl_lt (x1L2 + 1) (fun (x1_19 : Int32) =>
  some (.inl (x1_19, M_18))))))

noncomputable def jf_X5_aside (M : jl_Mem) : Option (Int32 × jl_Mem) :=
  jl_lt (0 : Int32) (fun (x1_1 : Int32) =>
  jl_wh (fun q => jf_X5_aside_L2 q.1 q.2) jl_F (x1_1, M))

noncomputable def jf_X5_again_L27 (x1L27 : Int32) (ML27 : jl_Mem) : Option ((Int32 × jl_Mem) ⊕ (Int32 × jl_Mem)) :=
  if (80 : Int32) ≤ x1L27 then (
  jl_ex (
  some (0, ML27))) else (
  jl_chk (jl_inb x1L27 80) (
  jl_chk (jl_isB (ML27 15 x1L27.toNatClampNeg)) (
  jl_lt (jl_st ML27 9 x1L27.toNatClampNeg (ML27 15 x1L27.toNatClampNeg)) (fun (M_44 : jl_Mem) =>
  jl_lt (x1L27 + 1) (fun (x1_45 : Int32) =>
  some (.inl (x1_45, M_44)))))))

noncomputable def jf_X5_again_L2 (x1L2 : Int32) (ML2 : jl_Mem) : Option ((Int32 × jl_Mem) ⊕ (Int32 × jl_Mem)) :=
  if (4 : Int32) ≤ x1L2 then (
  jl_ex (
  jl_lt (0 : Int32) (fun (x1_26 : Int32) =>
  jl_wh (fun q => jf_X5_again_L27 q.1 q.2) jl_F (x1_26, ML2)))) else (
  jl_chk (jl_inb x1L2 4) (
  jl_lt (jl_st ML2 8 x1L2.toNatClampNeg (ML2 14 x1L2.toNatClampNeg)) (fun (M_18 : jl_Mem) =>
  jl_lt (x1L2 + 1) (fun (x1_19 : Int32) =>
  some (.inl (x1_19, M_18))))))

noncomputable def jf_X5_again (M : jl_Mem) : Option (Int32 × jl_Mem) :=
  jl_lt (0 : Int32) (fun (x1_1 : Int32) =>
  jl_wh (fun q => jf_X5_again_L2 q.1 q.2) jl_F (x1_1, M))

noncomputable def jf_X5_mayBe (a1 : Int32) (a2 : Int32) (M : jl_Mem) : Option (Int32 × jl_Mem) :=
  if (M 0 2) ≤ a1 then (
  jl_bnd (jf_X5_in a2 (0 : Int32) (0 : Int32) M) (fun r_20 M_20 =>
  jl_chk (jl_isB r_20) (
  some (r_20, M_20)))) else (
  jl_chk (jl_inb a1 4) (
  jl_bnd (jf_X5_in a2 (0 : Int32) (M 6 a1.toNatClampNeg) M) (fun r_20 M_20 =>
  jl_chk (jl_isB r_20) (
  some (r_20, M_20)))))

noncomputable def jf_X5_enough (a1 : Int32) (a2 : Int32) (a3 : Int32) (a4 : Int32) (a5 : Int32) (M : jl_Mem) : Option (Int32 × jl_Mem) :=
  jl_bnd (jf_X5_in a1 (1 : Int32) (M 0 1) M) (fun r_6 M_6 =>
  if r_6 = 0 then (
  some ((-2 : Int32), M_6)) else (
  jl_bnd (jf_X5_mayBe (0 : Int32) a2 M_6) (fun r_15 M_15 =>
  if r_15 = 0 then (
  some ((-2 : Int32), M_15)) else (
  jl_bnd (jf_X5_mayBe (1 : Int32) a3 M_15) (fun r_24 M_24 =>
  if r_24 = 0 then (
  some ((-2 : Int32), M_24)) else (
  jl_bnd (jf_X5_mayBe (2 : Int32) a4 M_24) (fun r_34 M_34 =>
  if r_34 = 0 then (
  some ((-2 : Int32), M_34)) else (
  jl_bnd (jf_X5_mayBe (3 : Int32) a5 M_34) (fun r_44 M_44 =>
  if r_44 = 0 then (
  some ((-2 : Int32), M_44)) else (
  jl_bnd (jf_X5_aside M_44) (fun r_54 M_54 =>
  jl_chk (jl_inb (0 : Int32) 4) (
  jl_lt (jl_st M_54 8 (0 : Int32).toNatClampNeg a2) (fun (M_63 : jl_Mem) =>
  jl_chk (jl_inb (1 : Int32) 4) (
  jl_lt (jl_st M_63 8 (1 : Int32).toNatClampNeg a3) (fun (M_70 : jl_Mem) =>
  jl_chk (jl_inb (2 : Int32) 4) (
  jl_lt (jl_st M_70 8 (2 : Int32).toNatClampNeg a4) (fun (M_78 : jl_Mem) =>
  jl_chk (jl_inb (3 : Int32) 4) (
  jl_lt (jl_st M_78 8 (3 : Int32).toNatClampNeg a5) (fun (M_86 : jl_Mem) =>
  jl_bnd (jf_X5_isSure a1 M_86) (fun r_89 M_89 =>
  jl_lt r_89 (fun (x6_92 : Int32) =>
  jl_bnd (jf_X5_again M_89) (fun r_95 M_95 =>
  if x6_92 = 0 then (
  some ((0 : Int32), M_95)) else (
  some ((1 : Int32), M_95))))))))))))))))))))))))

noncomputable def jf_X5_next_L7 (x1L7 : Int32) (ML7 : jl_Mem) : Option ((Int32 × jl_Mem) ⊕ (Int32 × jl_Mem)) :=
  if x1L7 < 0 then (
  jl_ex (
  some ((0 : Int32), ML7))) else (
  jl_chk (jl_inb x1L7 4) (
  if (ML7 6 x1L7.toNatClampNeg) ≤ (ML7 8 x1L7.toNatClampNeg) then (
  jl_lt (jl_st ML7 8 x1L7.toNatClampNeg (0 : Int32)) (fun (M_44 : jl_Mem) =>
  jl_lt (x1L7 + (-1)) (fun (x1_45 : Int32) =>
  some (.inl (x1_45, M_44))))) else (
  jl_ex (
  jl_lt (jl_st ML7 8 x1L7.toNatClampNeg ((ML7 8 x1L7.toNatClampNeg) + (1 : Int32))) (fun (M_35 : jl_Mem) =>
  some ((1 : Int32), M_35))))))

noncomputable def jf_X5_next (M : jl_Mem) : Option (Int32 × jl_Mem) :=
  jl_lt ((M 0 2) - (1 : Int32)) (fun (x1_6 : Int32) =>
  jl_wh (fun q => jf_X5_next_L7 q.1 q.2) jl_F (x1_6, M))

noncomputable def jf_X5_least_L134 (a1 : Int32) (x3_130 : Int32) (x6L134 : Int32) (ML134 : jl_Mem) : Option ((Int32 × jl_Mem) ⊕ ((Int32 × Int32 × jl_Mem) ⊕ (Int32 × jl_Mem))) :=
  if (4 : Int32) ≤ x6L134 then (
  jl_ex (
  jl_bnd (jf_X5_next ML134) (fun r_161 M_161 =>
  jl_lt r_161 (fun (x4_164 : Int32) =>
  some (.inl (x3_130, x4_164, M_161)))))) else (
  jl_chk (jl_inb x6L134 4) (
  jl_lt (jl_st ML134 16 x6L134.toNatClampNeg (ML134 8 x6L134.toNatClampNeg)) (fun (M_153 : jl_Mem) =>
  jl_lt (x6L134 + 1) (fun (x6_154 : Int32) =>
  some (.inl (x6_154, M_153))))))

noncomputable def jf_X5_least_L74 (a1 : Int32) (x3L63 : Int32) (x5L74 : Int32) (x6L74 : Int32) (ML74 : jl_Mem) : Option ((Int32 × Int32 × jl_Mem) ⊕ ((Int32 × Int32 × jl_Mem) ⊕ (Int32 × jl_Mem))) :=
  if (ML74 0 2) ≤ x6L74 then (
  jl_ex (
  if x3L63 = (-1 : Int32) then (
  jl_bnd (jf_X5_isSure a1 ML74) (fun r_122 M_122 =>
  if r_122 = 0 then (
  jl_bnd (jf_X5_next M_122) (fun r_161 M_161 =>
  jl_lt r_161 (fun (x4_164 : Int32) =>
  some (.inl (x3L63, x4_164, M_161))))) else (
  jl_lt x5L74 (fun (x3_130 : Int32) =>
  jl_lt (0 : Int32) (fun (x6_132 : Int32) =>
  jl_wh (fun q => jf_X5_least_L134 a1 x3_130 q.1 q.2) jl_F (x6_132, M_122)))))) else (
  if x3L63 ≤ x5L74 then (
  jl_bnd (jf_X5_next ML74) (fun r_161 M_161 =>
  jl_lt r_161 (fun (x4_164 : Int32) =>
  some (.inl (x3L63, x4_164, M_161))))) else (
  jl_bnd (jf_X5_isSure a1 ML74) (fun r_122 M_122 =>
  if r_122 = 0 then (
  jl_bnd (jf_X5_next M_122) (fun r_161 M_161 =>
  jl_lt r_161 (fun (x4_164 : Int32) =>
  some (.inl (x3L63, x4_164, M_161))))) else (
  jl_lt x5L74 (fun (x3_130 : Int32) =>
  jl_lt (0 : Int32) (fun (x6_132 : Int32) =>
  jl_wh (fun q => jf_X5_least_L134 a1 x3_130 q.1 q.2) jl_F (x6_132, M_122))))))))) else (
  jl_chk (jl_inb x6L74 4) (
  jl_lt (x5L74 + ((ML74 2 x6L74.toNatClampNeg) * (ML74 8 x6L74.toNatClampNeg))) (fun (x5_101 : Int32) =>
  jl_lt (x6L74 + 1) (fun (x6_103 : Int32) =>
  some (.inl (x5_101, x6_103, ML74))))))

noncomputable def jf_X5_least_L63 (a1 : Int32) (x3L63 : Int32) (x4L63 : Int32) (ML63 : jl_Mem) : Option ((Int32 × Int32 × jl_Mem) ⊕ (Int32 × jl_Mem)) :=
  if x4L63 = 0 then (
  jl_ex (
  jl_bnd (jf_X5_again ML63) (fun r_170 M_170 =>
  some (x3L63, M_170)))) else (
  jl_lt (0 : Int32) (fun (x5_69 : Int32) =>
  jl_lt (0 : Int32) (fun (x6_72 : Int32) =>
  jl_wh (fun q => jf_X5_least_L74 a1 x3L63 q.1 q.2.1 q.2.2) jl_F (x5_69, x6_72, ML63))))

noncomputable def jf_X5_least_L19 (a1 : Int32) (x2L19 : Int32) (x3L19 : Int32) (ML19 : jl_Mem) : Option ((Int32 × Int32 × jl_Mem) ⊕ (Int32 × jl_Mem)) :=
  if (ML19 0 2) ≤ x3L19 then (
  jl_ex (
  if x2L19 ≤ (500 : Int32) then (
  jl_bnd (jf_X5_aside ML19) (fun r_55 M_55 =>
  jl_lt (-1 : Int32) (fun (x3_59 : Int32) =>
  jl_lt (1 : Int32) (fun (x4_61 : Int32) =>
  jl_wh (fun q => jf_X5_least_L63 a1 q.1 q.2.1 q.2.2) jl_F (x3_59, x4_61, M_55))))) else (
  some ((-3 : Int32), ML19)))) else (
  jl_chk (jl_inb x3L19 4) (
  jl_lt (x2L19 * ((ML19 6 x3L19.toNatClampNeg) + (1 : Int32))) (fun (x2_37 : Int32) =>
  jl_lt (x3L19 + 1) (fun (x3_38 : Int32) =>
  some (.inl (x2_37, x3_38, ML19))))))

noncomputable def jf_X5_least (a1 : Int32) (M : jl_Mem) : Option (Int32 × jl_Mem) :=
  jl_bnd (jf_X5_in a1 (1 : Int32) (M 0 1) M) (fun r_6 M_6 =>
  if r_6 = 0 then (
  some ((-2 : Int32), M_6)) else (
  jl_lt (1 : Int32) (fun (x2_16 : Int32) =>
  jl_lt (0 : Int32) (fun (x3_18 : Int32) =>
  jl_wh (fun q => jf_X5_least_L19 a1 q.1 q.2.1 q.2.2) jl_F (x2_16, x3_18, M_6)))))

noncomputable def jf_X5_leastDepth (a1 : Int32) (M : jl_Mem) : Option (Int32 × jl_Mem) :=
  jl_bnd (jf_X5_in a1 (0 : Int32) (3 : Int32) M) (fun r_3 M_3 =>
  if r_3 = 0 then (
  some ((-1 : Int32), M_3)) else (
  jl_chk (jl_inb a1 4) (
  some ((M_3 16 a1.toNatClampNeg), M_3))))

noncomputable def jf_X5_count_L48 (x2L48 : Int32) (x3L48 : Int32) (ML48 : jl_Mem) : Option ((Int32 × Int32 × jl_Mem) ⊕ (Int32 × jl_Mem)) :=
  if (ML48 0 2) ≤ x3L48 then (
  jl_ex (
  some (x2L48, ML48))) else (
  jl_chk (jl_inb x3L48 4) (
  jl_lt (x2L48 + (ML48 6 x3L48.toNatClampNeg)) (fun (x2_64 : Int32) =>
  jl_lt (x3L48 + 1) (fun (x3_65 : Int32) =>
  some (.inl (x2_64, x3_65, ML48))))))

noncomputable def jf_X5_count (a1 : Int32) (M : jl_Mem) : Option (Int32 × jl_Mem) :=
  jl_lt (0 : Int32) (fun (x2_1 : Int32) =>
  if a1 = 0 then (
  some ((M 0 1), M)) else (
  if a1 = 1 then (
  some ((M 0 2), M)) else (
  if a1 = 2 then (
  jl_lt (0 : Int32) (fun (x3_47 : Int32) =>
  jl_wh (fun q => jf_X5_count_L48 q.1 q.2.1 q.2.2) jl_F (x2_1, x3_47, M))) else (
  if a1 = 3 then (
  some ((M 0 3), M)) else (
  if a1 = 4 then (
  if (M 0 16) = 0 then (
  some ((0 : Int32), M)) else (
  some ((1 : Int32), M))) else (
  some ((-1 : Int32), M)))))))
