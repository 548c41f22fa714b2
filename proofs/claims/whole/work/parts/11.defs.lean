def xp_X0_isFull  (f_length : Int32)   (K : Int32 → Prop) : Prop :=
  ((f_length < 120 →
    K (0 : Int32)
  ) ∧ (¬ f_length < 120 →
    K (1 : Int32)
  ))
def xp_X0_add   (f_signs : Nat → Int32) (f_length : Int32) (x1 : Int32) (K : Int32 → ((Nat → Int32) × Int32) → Prop) : Prop :=
  ((120 ≤ f_length →
    K f_length (f_signs, f_length)
  ) ∧ (¬ 120 ≤ f_length →
    (vp_in f_length 120) ∧
    K (f_length + 1) (upd f_signs f_length.toNatClampNeg (vp_nar .char x1), f_length + 1)
  ))
def xp_X0_empty   (f_length : Int32)  (K : Int32 → Int32 → Prop) : Prop :=
  K f_length (0)
def xp_X0_readSign  (f_signs : Nat → Int32) (f_length : Int32) (f_at : Int32) (x1 : Int32) (x2 : Int32) (K : Int32 → Int32 → Prop) : Prop :=
  ((f_at < 0 →
    K (-1 : Int32) (f_at)
  ) ∧ (¬ f_at < 0 →
    ((f_length ≤ f_at →
      K (-1 : Int32) (f_at)
    ) ∧ (¬ f_length ≤ f_at →
      ((120 ≤ f_at →
        K (-1 : Int32) (f_at)
      ) ∧ (¬ 120 ≤ f_at →
        (vp_in f_at 120) ∧
        (((f_signs f_at.toNatClampNeg) < x1 →
          K (-1 : Int32) (f_at)
        ) ∧ (¬ (f_signs f_at.toNatClampNeg) < x1 →
          (vp_in f_at 120) ∧
          (((f_signs f_at.toNatClampNeg) ≤ x2 →
            (vp_in f_at 120) ∧
            K (f_signs f_at.toNatClampNeg) (f_at + 1)
          ) ∧ (¬ (f_signs f_at.toNatClampNeg) ≤ x2 →
            K (-1 : Int32) (f_at)
          ))
        ))
      ))
    ))
  ))
def xp_X0_startReading  (f_signs : Nat → Int32) (f_length : Int32) (f_at : Int32)  (K : Int32 → Int32 → Prop) : Prop :=
  xp_X0_readSign f_signs f_length 0 84 84 (fun r1 u1 =>
    ((r1 = (-1 : Int32) →
      K (0 : Int32) (u1)
    ) ∧ (¬ r1 = (-1 : Int32) →
      K (1 : Int32) (u1)
    ))
  )
def xp_X0_hasMore  (f_length : Int32) (f_at : Int32)   (K : Int32 → Prop) : Prop :=
  ((f_length ≤ f_at →
    K (0 : Int32)
  ) ∧ (¬ f_length ≤ f_at →
    K (1 : Int32)
  ))
def xp_X0_readNumber_68  (f_signs : Nat → Int32) (f_length : Int32) (K : Int32 → (Int32 × Int32) → Prop)  (f_at : Int32) (f_number : Int32) : Prop :=
  K (0 : Int32) (f_at - 1, f_number)
def xp_X0_readNumber_8  (f_signs : Nat → Int32) (f_length : Int32) (K : Int32 → (Int32 × Int32) → Prop)  : Nat → Int32 → Int32 → Int32 → Int32 → Int32 → Prop
  | 0, _, _, _, _, _ => False
  | n + 1, f_at, f_number, v2, v3, v4 =>
    ((v4 ≤ 0 →
      K (1 : Int32) (f_at, f_number)
    ) ∧ (¬ v4 ≤ 0 →
      xp_X0_readSign f_signs f_length f_at 48 57 (fun r2 u2 =>
        ((0 ≤ (r2 - 48) →
          ((v3 < (f_number + ((r2 - 48) * v4)) →
            xp_X0_readNumber_68 f_signs f_length K u2 (f_number + ((r2 - 48) * v4))
          ) ∧ (¬ v3 < (f_number + ((r2 - 48) * v4)) →
            ((v2 ≤ (((f_number + ((r2 - 48) * v4)) + v4) - 1) →
              xp_X0_readNumber_8 f_signs f_length K n u2 (f_number + ((r2 - 48) * v4)) v2 v3 (v4 / 10)
            ) ∧ (¬ v2 ≤ (((f_number + ((r2 - 48) * v4)) + v4) - 1) →
              xp_X0_readNumber_68 f_signs f_length K u2 (f_number + ((r2 - 48) * v4))
            ))
          ))
        ) ∧ (¬ 0 ≤ (r2 - 48) →
          K (0 : Int32) (u2, f_number)
        ))
      )
    ))
def xp_X0_readNumber  (f_signs : Nat → Int32) (f_length : Int32) (f_at : Int32) (f_number : Int32) (x1 : Int32) (x2 : Int32) (x3 : Int32) (K : Int32 → (Int32 × Int32) → Prop) : Prop :=
  ∃ n9, xp_X0_readNumber_8 f_signs f_length K n9 f_at 0 x2 x3 x1
def xp_X0_readSetup  (f_signs : Nat → Int32) (f_length : Int32) (f_at : Int32) (f_scene : Int32) (f_letter : Int32) (f_number : Int32)  (K : Int32 → (Int32 × Int32 × Int32 × Int32) → Prop) : Prop :=
  xp_X0_readNumber f_signs f_length f_at f_number 10 1 99 (fun r1 u1 =>
    ((¬ r1 = 0 →
      xp_X0_readSign f_signs f_length u1.1 65 90 (fun r3 u3 =>
        (((r3 - 65) < 0 →
          K (0 : Int32) (u3, u1.2, r3 - 65, u1.2)
        ) ∧ (¬ (r3 - 65) < 0 →
          K (1 : Int32) (u3, u1.2, r3 - 65, u1.2)
        ))
      )
    ) ∧ (r1 = 0 →
      K (0 : Int32) (u1.1, f_scene, f_letter, u1.2)
    ))
  )
def xp_X0_readCommand  (f_signs : Nat → Int32) (f_length : Int32) (f_at : Int32) (f_command : Int32) (f_scene : Int32) (f_letter : Int32) (f_number : Int32)  (K : Int32 → (Int32 × Int32 × Int32 × Int32 × Int32) → Prop) : Prop :=
  xp_X0_readSign f_signs f_length f_at 97 122 (fun r1 u1 =>
    ((r1 = 98 →
      xp_X0_readSetup f_signs f_length u1 f_scene f_letter f_number (fun r4 u4 =>
        ((r4 = 0 →
          K (0 : Int32) (u4.1, r1, u4.2.1, u4.2.2.1, u4.2.2.2)
        ) ∧ (¬ r4 = 0 →
          xp_X0_readNumber f_signs f_length u4.1 u4.2.2.2 10 1 99 (fun r6 u6 =>
            ((r6 = 0 →
              K (0 : Int32) (u6.1, r1, u4.2.1, u4.2.2.1, u6.2)
            ) ∧ (¬ r6 = 0 →
              K (1 : Int32) (u6.1, r1, u4.2.1, u4.2.2.1, u6.2)
            ))
          )
        ))
      )
    ) ∧ (¬ r1 = 98 →
    ((r1 = 99 →
      xp_X0_readSetup f_signs f_length u1 f_scene f_letter f_number (fun r9 u9 =>
        (narrow .boolean (.int r9) = .int r9) ∧
        K r9 (u9.1, r1, u9.2.1, u9.2.2.1, u9.2.2.2)
      )
    ) ∧ (¬ r1 = 99 →
    ((r1 = 100 →
      K (0 : Int32) (f_at, r1, f_scene, f_letter, f_number)
    ) ∧ (¬ r1 = 100 →
    ((r1 = 101 →
      K (0 : Int32) (f_at, r1, f_scene, f_letter, f_number)
    ) ∧ (¬ r1 = 101 →
    ((r1 = 102 →
      xp_X0_readNumber f_signs f_length u1 f_number 10 0 23 (fun r13 u13 =>
        (narrow .boolean (.int r13) = .int r13) ∧
        K r13 (u13.1, r1, f_scene, f_letter, u13.2)
      )
    ) ∧ (¬ r1 = 102 →
    ((r1 = 103 →
      K (0 : Int32) (f_at, r1, f_scene, f_letter, f_number)
    ) ∧ (¬ r1 = 103 →
    ((r1 = 104 →
      K (0 : Int32) (f_at, r1, f_scene, f_letter, f_number)
    ) ∧ (¬ r1 = 104 →
    ((r1 = 105 →
      K (0 : Int32) (f_at, r1, f_scene, f_letter, f_number)
    ) ∧ (¬ r1 = 105 →
    ((r1 = 106 →
      K (0 : Int32) (f_at, r1, f_scene, f_letter, f_number)
    ) ∧ (¬ r1 = 106 →
    ((r1 = 107 →
      K (0 : Int32) (f_at, r1, f_scene, f_letter, f_number)
    ) ∧ (¬ r1 = 107 →
    ((r1 = 108 →
      K (0 : Int32) (f_at, r1, f_scene, f_letter, f_number)
    ) ∧ (¬ r1 = 108 →
    ((r1 = 109 →
      xp_X0_readNumber f_signs f_length u1 f_number 100 1 120 (fun r21 u21 =>
        (narrow .boolean (.int r21) = .int r21) ∧
        K r21 (u21.1, r1, f_scene, f_letter, u21.2)
      )
    ) ∧ (¬ r1 = 109 →
    ((r1 = 110 →
      K (1 : Int32) (u1, r1, f_scene, f_letter, f_number)
    ) ∧ (¬ r1 = 110 →
    ((r1 = 111 →
      xp_X0_readNumber f_signs f_length u1 f_number 10 0 23 (fun r24 u24 =>
        (narrow .boolean (.int r24) = .int r24) ∧
        K r24 (u24.1, r1, f_scene, f_letter, u24.2)
      )
    ) ∧ (¬ r1 = 111 →
    ((r1 = 112 →
      K (0 : Int32) (f_at, r1, f_scene, f_letter, f_number)
    ) ∧ (¬ r1 = 112 →
    ((r1 = 113 →
      K (0 : Int32) (f_at, r1, f_scene, f_letter, f_number)
    ) ∧ (¬ r1 = 113 →
    ((r1 = 114 →
      K (1 : Int32) (u1, r1, f_scene, f_letter, f_number)
    ) ∧ (¬ r1 = 114 →
    ((r1 = 115 →
      K (1 : Int32) (u1, r1, f_scene, f_letter, f_number)
    ) ∧ (¬ r1 = 115 →
    ((r1 = 116 →
      xp_X0_readNumber f_signs f_length u1 f_number 100 1 120 (fun r30 u30 =>
        (narrow .boolean (.int r30) = .int r30) ∧
        K r30 (u30.1, r1, f_scene, f_letter, u30.2)
      )
    ) ∧ (¬ r1 = 116 →
    ((r1 = 117 →
      K (0 : Int32) (f_at, r1, f_scene, f_letter, f_number)
    ) ∧ (¬ r1 = 117 →
    ((r1 = 118 →
      xp_X0_readNumber f_signs f_length u1 f_number 10 0 99 (fun r33 u33 =>
        (narrow .boolean (.int r33) = .int r33) ∧
        K r33 (u33.1, r1, f_scene, f_letter, u33.2)
      )
    ) ∧ (¬ r1 = 118 →
      K (0 : Int32) (f_at, r1, f_scene, f_letter, f_number)
    ))))))))))))))))))))))))))))))))))))))))))
  )
def xp_X0_firstError_14  (f_signs : Nat → Int32) (f_length : Int32) (K : Int32 → (Int32 × Int32 × Int32 × Int32 × Int32) → Prop)  : Nat → Int32 → Int32 → Int32 → Int32 → Int32 → Int32 → Prop
  | 0, _, _, _, _, _, _ => False
  | n + 1, f_at, f_command, f_scene, f_letter, f_number, v1 =>
    ((120 ≤ v1 →
      K (-1 : Int32) (f_at, f_command, f_scene, f_letter, f_number)
    ) ∧ (¬ 120 ≤ v1 →
      xp_X0_hasMore f_length f_at (fun r2 =>
        ((r2 = 0 →
          K (-1 : Int32) (f_at, f_command, f_scene, f_letter, f_number)
        ) ∧ (¬ r2 = 0 →
          xp_X0_readCommand f_signs f_length f_at f_command f_scene f_letter f_number (fun r4 u4 =>
            ((¬ r4 = 0 →
              xp_X0_firstError_14 f_signs f_length K n u4.1 u4.2.1 u4.2.2.1 u4.2.2.2.1 u4.2.2.2.2 (v1 + 1)
            ) ∧ (r4 = 0 →
              K u4.1 (u4.1, u4.2.1, u4.2.2.1, u4.2.2.2.1, u4.2.2.2.2)
            ))
          )
        ))
      )
    ))
def xp_X0_firstError  (f_signs : Nat → Int32) (f_length : Int32) (f_at : Int32) (f_command : Int32) (f_scene : Int32) (f_letter : Int32) (f_number : Int32)  (K : Int32 → (Int32 × Int32 × Int32 × Int32 × Int32) → Prop) : Prop :=
  xp_X0_startReading f_signs f_length f_at (fun r1 u1 =>
    ((¬ r1 = 0 →
      ∃ n9, xp_X0_firstError_14 f_signs f_length K n9 u1 f_command f_scene f_letter f_number 0
    ) ∧ (r1 = 0 →
      K u1 (u1, f_command, f_scene, f_letter, f_number)
    ))
  )
def xp_X3_of  (f_cells : Nat → Int32)  (x1 : Int32) (x2 : Int32) (K : Int32 → Prop) : Prop :=
  ((((16 + (x1 * 16)) + x2) < 16 →
    K (-1 : Int32)
  ) ∧ (¬ ((16 + (x1 * 16)) + x2) < 16 →
    ((((16 + (x1 * 16)) + x2) < 400 →
      (vp_in ((16 + (x1 * 16)) + x2) 400) ∧
      K (f_cells ((16 + (x1 * 16)) + x2).toNatClampNeg)
    ) ∧ (¬ ((16 + (x1 * 16)) + x2) < 400 →
      K (-1 : Int32)
    ))
  ))
def xp_X1_add   (f_signs : Nat → Int32) (f_length : Int32) (x1 : Int32) (K : ((Nat → Int32) × Int32) → Prop) : Prop :=
  ((80 ≤ f_length →
    K (f_signs, f_length)
  ) ∧ (¬ 80 ≤ f_length →
    (vp_in f_length 80) ∧
    K (upd f_signs f_length.toNatClampNeg (vp_nar .char x1), f_length + 1)
  ))
def xp_X1_addNumber_17   (K : ((Nat → Int32) × Int32) → Prop) (X3 : (Nat → Int32) → Int32 → Int32 → Int32 → Prop) (f_signs : Nat → Int32) (f_length : Int32) (v1 : Int32) (v2 : Int32) : Prop :=
  (¬ v2 = 0) ∧
  xp_X1_add f_signs f_length (((48 + ((v1 / v2) - (v1 / v2) / 10 * 10)).toUInt32 % 65536).toInt32) (fun u1 =>
    X3 u1.1 u1.2 v1 (v2 / 10)
  )
def xp_X1_addNumber_3   (K : ((Nat → Int32) × Int32) → Prop)  : Nat → (Nat → Int32) → Int32 → Int32 → Int32 → Prop
  | 0, _, _, _, _ => False
  | n + 1, f_signs, f_length, v1, v2 =>
    ((v2 ≤ 0 →
      K (f_signs, f_length)
    ) ∧ (¬ v2 ≤ 0 →
      ((v2 = 1 →
        xp_X1_addNumber_17 K (fun f_signs f_length v1 v2 => xp_X1_addNumber_3 K n f_signs f_length v1 v2) f_signs f_length v1 v2
      ) ∧ (¬ v2 = 1 →
        ((v1 < v2 →
          xp_X1_addNumber_3 K n f_signs f_length v1 (v2 / 10)
        ) ∧ (¬ v1 < v2 →
          xp_X1_addNumber_17 K (fun f_signs f_length v1 v2 => xp_X1_addNumber_3 K n f_signs f_length v1 v2) f_signs f_length v1 v2
        ))
      ))
    ))
def xp_X1_addNumber   (f_signs : Nat → Int32) (f_length : Int32) (x1 : Int32) (K : ((Nat → Int32) × Int32) → Prop) : Prop :=
  ∃ n9, xp_X1_addNumber_3 K n9 f_signs f_length x1 1000000000
def xp_X1_addIf   (f_signs : Nat → Int32) (f_length : Int32) (x1 : Int32) (x2 : Int32) (K : ((Nat → Int32) × Int32) → Prop) : Prop :=
  ((x1 = 0 →
    K (f_signs, f_length)
  ) ∧ (¬ x1 = 0 →
    xp_X1_add f_signs f_length x2 (fun u2 =>
      K (u2.1, u2.2)
    )
  ))
def xp_X3_numberBehind_6  (f_cells : Nat → Int32) (K : Int32 → Prop)  : Nat → Int32 → Int32 → Int32 → Int32 → Int32 → Prop
  | 0, _, _, _, _, _ => False
  | n + 1, v1, v2, v3, v4, v5 =>
    ((v1 ≤ v5 →
      K v4
    ) ∧ (¬ v1 ≤ v5 →
      xp_X3_of f_cells v5 0 (fun r2 =>
        ((¬ r2 = v2 →
          xp_X3_numberBehind_6 f_cells K n v1 v2 v3 v4 (v5 + 1)
        ) ∧ (r2 = v2 →
          xp_X3_of f_cells v5 1 (fun r4 =>
            ((¬ r4 = v3 →
              xp_X3_numberBehind_6 f_cells K n v1 v2 v3 v4 (v5 + 1)
            ) ∧ (r4 = v3 →
              xp_X3_of f_cells v5 15 (fun r6 =>
                ((¬ r6 = 0 →
                  xp_X3_numberBehind_6 f_cells K n v1 v2 v3 v4 (v5 + 1)
                ) ∧ (r6 = 0 →
                  xp_X3_numberBehind_6 f_cells K n v1 v2 v3 (v4 + 1) (v5 + 1)
                ))
              )
            ))
          )
        ))
      )
    ))
def xp_X3_numberBehind  (f_cells : Nat → Int32)  (x1 : Int32) (x2 : Int32) (x3 : Int32) (K : Int32 → Prop) : Prop :=
  ∃ n9, xp_X3_numberBehind_6 f_cells K n9 x1 x2 x3 1 0
def xp_X3_rightNumber  (f_cells : Nat → Int32)  (x1 : Int32) (K : Int32 → Prop) : Prop :=
  xp_X3_of f_cells x1 0 (fun r1 =>
    xp_X3_of f_cells x1 1 (fun r2 =>
      xp_X3_numberBehind f_cells x1 r1 r2 (fun r3 =>
        K r3
      )
    )
  )
def xp_X3_said  (f_cells : Nat → Int32)  (x1 : Int32) (x2 : Int32) (x3 : Int32) (x4 : Int32) (K : Int32 → Prop) : Prop :=
  xp_X3_of f_cells x1 3 (fun r1 =>
    ((¬ r1 = x2 →
      K (0 : Int32)
    ) ∧ (r1 = x2 →
      xp_X3_of f_cells x1 4 (fun r3 =>
        ((¬ r3 = x3 →
          K (0 : Int32)
        ) ∧ (r3 = x3 →
          xp_X3_of f_cells x1 5 (fun r5 =>
            ((¬ r5 = x4 →
              K (0 : Int32)
            ) ∧ (r5 = x4 →
              K (1 : Int32)
            ))
          )
        ))
      )
    ))
  )
def xp_X3_isRight  (f_cells : Nat → Int32)  (x1 : Int32) (K : Int32 → Prop) : Prop :=
  xp_X3_of f_cells x1 0 (fun r1 =>
    xp_X3_of f_cells x1 1 (fun r2 =>
      xp_X3_rightNumber f_cells x1 (fun r3 =>
        xp_X3_said f_cells x1 r1 r2 r3 (fun r4 =>
          (narrow .boolean (.int r4) = .int r4) ∧
          K r4
        )
      )
    )
  )
def xp_X1_addPlace   (f_signs : Nat → Int32) (f_length : Int32) (x1 : Int32) (x2 : Int32) (x3 : Int32) (K : ((Nat → Int32) × Int32) → Prop) : Prop :=
  xp_X1_add f_signs f_length 32 (fun u1 =>
    xp_X1_add u1.1 u1.2 x1 (fun u2 =>
      xp_X1_addNumber u2.1 u2.2 x2 (fun u3 =>
        xp_X1_add u3.1 u3.2 58 (fun u4 =>
          xp_X1_addNumber u4.1 u4.2 x3 (fun u5 =>
            K (u5.1, u5.2)
          )
        )
      )
    )
  )
def xp_X3_hasSound  (f_cells : Nat → Int32)  (x1 : Int32) (K : Int32 → Prop) : Prop :=
  xp_X3_of f_cells x1 9 (fun r1 =>
    ((r1 = (-1 : Int32) →
      K (0 : Int32)
    ) ∧ (¬ r1 = (-1 : Int32) →
      K (1 : Int32)
    ))
  )
def xp_X1_write_103  (f_p1_cells : Nat → Int32) (K : ((Nat → Int32) × Int32) → Prop)  (f_signs : Nat → Int32) (f_length : Int32) (v2 : Int32) (t0 : Int32) : Prop :=
  xp_X1_addIf f_signs f_length t0 120 (fun u1 =>
    xp_X3_of f_p1_cells v2 6 (fun r2 =>
      xp_X3_of f_p1_cells v2 7 (fun r3 =>
        xp_X1_addPlace u1.1 u1.2 99 r2 r3 (fun u4 =>
          xp_X3_hasSound f_p1_cells v2 (fun r5 =>
            ((r5 = 0 →
              K (u4.1, u4.2)
            ) ∧ (¬ r5 = 0 →
              xp_X3_of f_p1_cells v2 9 (fun r7 =>
                xp_X3_of f_p1_cells v2 11 (fun r8 =>
                  xp_X1_addPlace u4.1 u4.2 115 r7 r8 (fun u9 =>
                    K (u9.1, u9.2)
                  )
                )
              )
            ))
          )
        )
      )
    )
  )
def xp_X1_write_81  (f_p1_cells : Nat → Int32) (K : ((Nat → Int32) × Int32) → Prop)  (f_signs : Nat → Int32) (f_length : Int32) (v2 : Int32) (t0 : Int32) : Prop :=
  xp_X1_addIf f_signs f_length t0 63 (fun u1 =>
    xp_X3_of f_p1_cells v2 15 (fun r2 =>
      ((¬ r2 = 1 →
        xp_X1_write_103 f_p1_cells K u1.1 u1.2 v2 0
      ) ∧ (r2 = 1 →
        xp_X1_write_103 f_p1_cells K u1.1 u1.2 v2 1
      ))
    )
  )
def xp_X1_write_62  (f_p1_cells : Nat → Int32) (K : ((Nat → Int32) × Int32) → Prop)  (f_signs : Nat → Int32) (f_length : Int32) (v2 : Int32) (t0 : Int32) : Prop :=
  xp_X1_addIf f_signs f_length t0 42 (fun u1 =>
    xp_X3_isRight f_p1_cells v2 (fun r2 =>
      ((¬ r2 = 0 →
        xp_X1_write_81 f_p1_cells K u1.1 u1.2 v2 0
      ) ∧ (r2 = 0 →
        xp_X1_write_81 f_p1_cells K u1.1 u1.2 v2 1
      ))
    )
  )
def xp_X1_write  (f_p1_cells : Nat → Int32) (f_signs : Nat → Int32) (f_length : Int32) (x2 : Int32) (K : ((Nat → Int32) × Int32) → Prop) : Prop :=
  xp_X3_of f_p1_cells x2 3 (fun r1 =>
    xp_X1_addNumber f_signs 0 r1 (fun u2 =>
      xp_X3_of f_p1_cells x2 4 (fun r3 =>
        xp_X1_add u2.1 u2.2 (((65 + r3).toUInt32 % 65536).toInt32) (fun u4 =>
          xp_X1_add u4.1 u4.2 47 (fun u5 =>
            xp_X3_of f_p1_cells x2 5 (fun r6 =>
              xp_X1_addNumber u5.1 u5.2 r6 (fun u7 =>
                xp_X3_of f_p1_cells x2 14 (fun r8 =>
                  ((¬ r8 = 1 →
                    xp_X1_write_62 f_p1_cells K u7.1 u7.2 x2 0
                  ) ∧ (r8 = 1 →
                    xp_X1_write_62 f_p1_cells K u7.1 u7.2 x2 1
                  ))
                )
              )
            )
          )
        )
      )
    )
  )
def xp_X1_signAt  (f_signs : Nat → Int32) (f_length : Int32)  (x1 : Int32) (K : Int32 → Prop) : Prop :=
  ((x1 < 0 →
    K (-1 : Int32)
  ) ∧ (¬ x1 < 0 →
    ((f_length ≤ x1 →
      K (-1 : Int32)
    ) ∧ (¬ f_length ≤ x1 →
      ((x1 < 80 →
        (vp_in x1 80) ∧
        K (f_signs x1.toNatClampNeg)
      ) ∧ (¬ x1 < 80 →
        K (-1 : Int32)
      ))
    ))
  ))
def xp_X2_store (tN : Nat) (f_places : Int32) (f_p2_cells : Nat → Int32) (f_cells : Nat → Int32) (x1 : Int32) (K : ((Nat → Int32)) → Prop) : Prop :=
  ((x1 < 0 →
    K (f_cells)
  ) ∧ (¬ x1 < 0 →
    ((f_places ≤ x1 →
      K (f_cells)
    ) ∧ (¬ f_places ≤ x1 →
      (¬ (x1 * 400) < 0 ∧ 0 + 400 ≤ 400 ∧ (x1 * 400).toNatClampNeg + 400 ≤ tN) ∧
      K (va_cpy f_p2_cells f_cells 0 ((x1 * 400).toNatClampNeg) 400)
    ))
  ))
def xp_X2_fetch (tN : Nat) (f_cells : Nat → Int32) (f_places : Int32) (f_p2_cells : Nat → Int32) (x1 : Int32) (K : ((Nat → Int32)) → Prop) : Prop :=
  ((x1 < 0 →
    K (f_p2_cells)
  ) ∧ (¬ x1 < 0 →
    ((f_places ≤ x1 →
      K (f_p2_cells)
    ) ∧ (¬ f_places ≤ x1 →
      (¬ (x1 * 400) < 0 ∧ (x1 * 400).toNatClampNeg + 400 ≤ tN ∧ 0 + 400 ≤ 400) ∧
      K (va_cpy f_cells f_p2_cells ((x1 * 400).toNatClampNeg) 0 400)
    ))
  ))
def xp_J7_fill_53178_5 (n1 : Nat)  (K : ((Nat → Int32)) → Prop)  : Nat → (Nat → Int32) → Int32 → Int32 → Int32 → Prop
  | 0, _, _, _, _ => False
  | n + 1, f_p1, v1, v2, v3 =>
    ((v3 ≤ v2 →
      K (f_p1)
    ) ∧ (¬ v3 ≤ v2 →
      (vp_in v2 n1) ∧
      xp_J7_fill_53178_5 n1 K n (upd f_p1 v2.toNatClampNeg v1) v1 (v2 + 1) v3
    ))
def xp_J7_fill_53178 (n1 : Nat)  (f_p1 : Nat → Int32) (x2 : Int32) (K : ((Nat → Int32)) → Prop) : Prop :=
  ∃ n9, xp_J7_fill_53178_5 n1 K n9 f_p1 x2 0 (nI n1)
def xp_X3_reset   (f_cells : Nat → Int32)  (K : ((Nat → Int32)) → Prop) : Prop :=
  xp_J7_fill_53178 400 f_cells 0 (fun u1 =>
    K (upd (upd (upd (upd (upd (upd (upd (upd (upd u1 1 1) 3 1) 5 1) 6 1) 8 1) 12 300) 13 900) 14 10) 15 1)
  )
def xp_X3_copyFrom  (f_p1_cells : Nat → Int32) (f_cells : Nat → Int32)  (K : ((Nat → Int32)) → Prop) : Prop :=
  (0 + 400 ≤ 400 ∧ 0 + 400 ≤ 400) ∧
  K (va_cpy f_p1_cells f_cells 0 0 400)
def xp_X3_takes  (f_cells : Nat → Int32)   (K : Int32 → Prop) : Prop :=
  K (f_cells 0)
def xp_X3_hasTake  (f_cells : Nat → Int32)  (x1 : Int32) (K : Int32 → Prop) : Prop :=
  ((x1 < 0 →
    K (0 : Int32)
  ) ∧ (¬ x1 < 0 →
    (((f_cells 0) ≤ x1 →
      K (0 : Int32)
    ) ∧ (¬ (f_cells 0) ≤ x1 →
      K (1 : Int32)
    ))
  ))
def xp_X3_put   (f_cells : Nat → Int32) (x1 : Int32) (x2 : Int32) (x3 : Int32) (K : ((Nat → Int32)) → Prop) : Prop :=
  ((((16 + (x1 * 16)) + x2) < 16 →
    K (f_cells)
  ) ∧ (¬ ((16 + (x1 * 16)) + x2) < 16 →
    ((400 ≤ ((16 + (x1 * 16)) + x2) →
      K (f_cells)
    ) ∧ (¬ 400 ≤ ((16 + (x1 * 16)) + x2) →
      (vp_in ((16 + (x1 * 16)) + x2) 400) ∧
      K (upd f_cells (((16 + (x1 * 16)) + x2).toNatClampNeg) x3)
    ))
  ))
def xp_X3_chosen  (f_cells : Nat → Int32)  (x1 : Int32) (K : Int32 → Prop) : Prop :=
  (((12 + x1) < 12 →
    K (-1 : Int32)
  ) ∧ (¬ (12 + x1) < 12 →
    (((12 + x1) ≤ 15 →
      (vp_in (12 + x1) 400) ∧
      K (f_cells (12 + x1).toNatClampNeg)
    ) ∧ (¬ (12 + x1) ≤ 15 →
      K (-1 : Int32)
    ))
  ))
def xp_X3_cameraLeft  (f_cells : Nat → Int32)   (K : Int32 → Prop) : Prop :=
  xp_X3_chosen f_cells 0 (fun r1 =>
    K (if (0 : Int32) < (r1 - (f_cells 7)) then (r1 - (f_cells 7)) else 0)
  )
def xp_X3_told  (f_cells : Nat → Int32)  (x1 : Int32) (x2 : Int32) (K : Int32 → Prop) : Prop :=
  ((x2 = 2 →
    xp_X3_rightNumber f_cells x1 (fun r3 =>
      K r3
    )
  ) ∧ (¬ x2 = 2 →
  ((x2 = 16 →
    xp_X3_isRight f_cells x1 (fun r5 =>
      ((r5 = 0 →
        K (0 : Int32)
      ) ∧ (¬ r5 = 0 →
        K (1 : Int32)
      ))
    )
  ) ∧ (¬ x2 = 16 →
    xp_X3_of f_cells x1 x2 (fun r7 =>
      K r7
    )
  ))))
def xp_X3_wrongSet_4  (f_cells : Nat → Int32) (K : Int32 → Prop)  : Nat → Int32 → Int32 → Prop
  | 0, _, _ => False
  | n + 1, v1, v2 =>
    xp_X3_takes f_cells (fun r1 =>
      ((r1 ≤ v2 →
        K v1
      ) ∧ (¬ r1 ≤ v2 →
        xp_X3_isRight f_cells v2 (fun r3 =>
          ((¬ r3 = 0 →
            xp_X3_wrongSet_4 f_cells K n v1 (v2 + 1)
          ) ∧ (r3 = 0 →
            xp_X3_wrongSet_4 f_cells K n (v1 ||| ((1 : Int32) <<< (v2 &&& 31))) (v2 + 1)
          ))
        )
      ))
    )
def xp_X3_wrongSet  (f_cells : Nat → Int32)   (K : Int32 → Prop) : Prop :=
  ∃ n9, xp_X3_wrongSet_4 f_cells K n9 0 0
def xp_J6_bitCount_0f7a4    (x1 : Int32) (K : Int32 → Prop) : Prop :=
  K ((((((((x1 - (((x1.toUInt32 >>> ((1 : Int32).toUInt32 &&& Int32.toUInt32 31)).toInt32) &&& 1431655765)) &&& 858993459) + ((((x1 - (((x1.toUInt32 >>> ((1 : Int32).toUInt32 &&& Int32.toUInt32 31)).toInt32) &&& 1431655765)).toUInt32 >>> ((2 : Int32).toUInt32 &&& Int32.toUInt32 31)).toInt32) &&& 858993459)) + (((((x1 - (((x1.toUInt32 >>> ((1 : Int32).toUInt32 &&& Int32.toUInt32 31)).toInt32) &&& 1431655765)) &&& 858993459) + ((((x1 - (((x1.toUInt32 >>> ((1 : Int32).toUInt32 &&& Int32.toUInt32 31)).toInt32) &&& 1431655765)).toUInt32 >>> ((2 : Int32).toUInt32 &&& Int32.toUInt32 31)).toInt32) &&& 858993459)).toUInt32 >>> ((4 : Int32).toUInt32 &&& Int32.toUInt32 31)).toInt32)) &&& 252645135) + (((((((x1 - (((x1.toUInt32 >>> ((1 : Int32).toUInt32 &&& Int32.toUInt32 31)).toInt32) &&& 1431655765)) &&& 858993459) + ((((x1 - (((x1.toUInt32 >>> ((1 : Int32).toUInt32 &&& Int32.toUInt32 31)).toInt32) &&& 1431655765)).toUInt32 >>> ((2 : Int32).toUInt32 &&& Int32.toUInt32 31)).toInt32) &&& 858993459)) + (((((x1 - (((x1.toUInt32 >>> ((1 : Int32).toUInt32 &&& Int32.toUInt32 31)).toInt32) &&& 1431655765)) &&& 858993459) + ((((x1 - (((x1.toUInt32 >>> ((1 : Int32).toUInt32 &&& Int32.toUInt32 31)).toInt32) &&& 1431655765)).toUInt32 >>> ((2 : Int32).toUInt32 &&& Int32.toUInt32 31)).toInt32) &&& 858993459)).toUInt32 >>> ((4 : Int32).toUInt32 &&& Int32.toUInt32 31)).toInt32)) &&& 252645135).toUInt32 >>> ((8 : Int32).toUInt32 &&& Int32.toUInt32 31)).toInt32)) + ((((((((x1 - (((x1.toUInt32 >>> ((1 : Int32).toUInt32 &&& Int32.toUInt32 31)).toInt32) &&& 1431655765)) &&& 858993459) + ((((x1 - (((x1.toUInt32 >>> ((1 : Int32).toUInt32 &&& Int32.toUInt32 31)).toInt32) &&& 1431655765)).toUInt32 >>> ((2 : Int32).toUInt32 &&& Int32.toUInt32 31)).toInt32) &&& 858993459)) + (((((x1 - (((x1.toUInt32 >>> ((1 : Int32).toUInt32 &&& Int32.toUInt32 31)).toInt32) &&& 1431655765)) &&& 858993459) + ((((x1 - (((x1.toUInt32 >>> ((1 : Int32).toUInt32 &&& Int32.toUInt32 31)).toInt32) &&& 1431655765)).toUInt32 >>> ((2 : Int32).toUInt32 &&& Int32.toUInt32 31)).toInt32) &&& 858993459)).toUInt32 >>> ((4 : Int32).toUInt32 &&& Int32.toUInt32 31)).toInt32)) &&& 252645135) + (((((((x1 - (((x1.toUInt32 >>> ((1 : Int32).toUInt32 &&& Int32.toUInt32 31)).toInt32) &&& 1431655765)) &&& 858993459) + ((((x1 - (((x1.toUInt32 >>> ((1 : Int32).toUInt32 &&& Int32.toUInt32 31)).toInt32) &&& 1431655765)).toUInt32 >>> ((2 : Int32).toUInt32 &&& Int32.toUInt32 31)).toInt32) &&& 858993459)) + (((((x1 - (((x1.toUInt32 >>> ((1 : Int32).toUInt32 &&& Int32.toUInt32 31)).toInt32) &&& 1431655765)) &&& 858993459) + ((((x1 - (((x1.toUInt32 >>> ((1 : Int32).toUInt32 &&& Int32.toUInt32 31)).toInt32) &&& 1431655765)).toUInt32 >>> ((2 : Int32).toUInt32 &&& Int32.toUInt32 31)).toInt32) &&& 858993459)).toUInt32 >>> ((4 : Int32).toUInt32 &&& Int32.toUInt32 31)).toInt32)) &&& 252645135).toUInt32 >>> ((8 : Int32).toUInt32 &&& Int32.toUInt32 31)).toInt32)).toUInt32 >>> ((16 : Int32).toUInt32 &&& Int32.toUInt32 31)).toInt32)) &&& 63)
def xp_X3_wrongSlates  (f_cells : Nat → Int32)   (K : Int32 → Prop) : Prop :=
  xp_X3_wrongSet f_cells (fun r1 =>
    xp_J6_bitCount_0f7a4 r1 (fun r2 =>
      K r2
    )
  )
def xp_X3_marked_4  (f_cells : Nat → Int32) (K : Int32 → Prop)  : Nat → Int32 → Int32 → Int32 → Prop
  | 0, _, _, _ => False
  | n + 1, v1, v2, v3 =>
    xp_X3_takes f_cells (fun r1 =>
      ((r1 ≤ v3 →
        K v2
      ) ∧ (¬ r1 ≤ v3 →
        xp_X3_of f_cells v3 v1 (fun r3 =>
          xp_X3_marked_4 f_cells K n v1 (v2 + r3) (v3 + 1)
        )
      ))
    )
def xp_X3_marked  (f_cells : Nat → Int32)  (x1 : Int32) (K : Int32 → Prop) : Prop :=
  ∃ n9, xp_X3_marked_4 f_cells K n9 x1 0 0
def xp_X3_circledSeconds_4  (f_cells : Nat → Int32) (K : Int32 → Prop)  : Nat → Int32 → Int32 → Prop
  | 0, _, _ => False
  | n + 1, v1, v2 =>
    xp_X3_takes f_cells (fun r1 =>
      ((r1 ≤ v2 →
        K v1
      ) ∧ (¬ r1 ≤ v2 →
        xp_X3_of f_cells v2 14 (fun r3 =>
          xp_X3_of f_cells v2 8 (fun r4 =>
            xp_X3_circledSeconds_4 f_cells K n (v1 + (r3 * r4)) (v2 + 1)
          )
        )
      ))
    )
def xp_X3_circledSeconds  (f_cells : Nat → Int32)   (K : Int32 → Prop) : Prop :=
  ∃ n9, xp_X3_circledSeconds_4 f_cells K n9 0 0
def xp_X3_overlap_48  (f_cells : Nat → Int32) (K : Int32 → Prop)  (t0 : Int32) (t1 : Int32) : Prop :=
  (((t1 - t0) ≤ 0 →
    K (0 : Int32)
  ) ∧ (¬ (t1 - t0) ≤ 0 →
    K (t1 - t0)
  ))
def xp_X3_overlap  (f_cells : Nat → Int32)  (x1 : Int32) (x2 : Int32) (x3 : Int32) (x4 : Int32) (K : Int32 → Prop) : Prop :=
  xp_X3_of f_cells x3 13 (fun r1 =>
    xp_X3_of f_cells x3 8 (fun r2 =>
      ((x2 ≤ ((r1 + x4) + r2) →
        (((r1 + x4) ≤ x1 →
          xp_X3_overlap_48 f_cells K x1 x2
        ) ∧ (¬ (r1 + x4) ≤ x1 →
          xp_X3_overlap_48 f_cells K (r1 + x4) x2
        ))
      ) ∧ (¬ x2 ≤ ((r1 + x4) + r2) →
        (((r1 + x4) ≤ x1 →
          xp_X3_overlap_48 f_cells K x1 ((r1 + x4) + r2)
        ) ∧ (¬ (r1 + x4) ≤ x1 →
          xp_X3_overlap_48 f_cells K (r1 + x4) ((r1 + x4) + r2)
        ))
      ))
    )
  )
def xp_X3_soundFor_60  (f_cells : Nat → Int32) (K : Int32 → Prop) (X28 : Int32 → Int32 → Int32 → Int32 → Int32 → Int32 → Prop) (v2 : Int32) (v3 : Int32) (v4 : Int32) (v5 : Int32) (v6 : Int32) (v7 : Int32) (t0 : Int32) : Prop :=
  ((t0 ≤ v6 →
    X28 v2 v3 v4 v5 v6 (v7 + 1)
  ) ∧ (¬ t0 ≤ v6 →
    X28 v2 v3 v4 v7 t0 (v7 + 1)
  ))
def xp_X3_soundFor_28  (f_cells : Nat → Int32) (K : Int32 → Prop)  : Nat → Int32 → Int32 → Int32 → Int32 → Int32 → Int32 → Prop
  | 0, _, _, _, _, _, _ => False
  | n + 1, v2, v3, v4, v5, v6, v7 =>
    xp_X3_takes f_cells (fun r1 =>
      ((r1 ≤ v7 →
        K v5
      ) ∧ (¬ r1 ≤ v7 →
        xp_X3_hasSound f_cells v7 (fun r3 =>
          ((r3 = 0 →
            xp_X3_soundFor_60 f_cells K (fun v2 v3 v4 v5 v6 v7 => xp_X3_soundFor_28 f_cells K n v2 v3 v4 v5 v6 v7) v2 v3 v4 v5 v6 v7 0
          ) ∧ (¬ r3 = 0 →
            xp_X3_overlap f_cells v3 v4 v7 v2 (fun r5 =>
              xp_X3_soundFor_60 f_cells K (fun v2 v3 v4 v5 v6 v7 => xp_X3_soundFor_28 f_cells K n v2 v3 v4 v5 v6 v7) v2 v3 v4 v5 v6 v7 r5
            )
          ))
        )
      ))
    )
def xp_X3_soundFor  (f_cells : Nat → Int32)  (x1 : Int32) (x2 : Int32) (K : Int32 → Prop) : Prop :=
  xp_X3_of f_cells x1 12 (fun r1 =>
    xp_X3_of f_cells x1 8 (fun r2 =>
      ∃ n9, xp_X3_soundFor_28 f_cells K n9 x2 r1 (r1 + r2) (-1 : Int32) 0 0
    )
  )
def xp_X3_unlikeSounds_4  (f_cells : Nat → Int32) (K : Int32 → Prop)  : Nat → Int32 → Int32 → Prop
  | 0, _, _ => False
  | n + 1, v1, v2 =>
    xp_X3_takes f_cells (fun r1 =>
      ((r1 ≤ v2 →
        K v1
      ) ∧ (¬ r1 ≤ v2 →
        xp_X3_soundFor f_cells v2 0 (fun r3 =>
          xp_X3_hasSound f_cells v2 (fun r4 =>
            ((r4 = 0 →
              ((r3 = (-1 : Int32) →
                xp_X3_unlikeSounds_4 f_cells K n v1 (v2 + 1)
              ) ∧ (¬ r3 = (-1 : Int32) →
                xp_X3_unlikeSounds_4 f_cells K n (v1 + 1) (v2 + 1)
              ))
            ) ∧ (¬ r4 = 0 →
              ((r3 = v2 →
                xp_X3_unlikeSounds_4 f_cells K n v1 (v2 + 1)
              ) ∧ (¬ r3 = v2 →
                xp_X3_unlikeSounds_4 f_cells K n (v1 + 1) (v2 + 1)
              ))
            ))
          )
        )
      ))
    )
def xp_X3_unlikeSounds  (f_cells : Nat → Int32)   (K : Int32 → Prop) : Prop :=
  ∃ n9, xp_X3_unlikeSounds_4 f_cells K n9 0 0
def xp_X3_total  (f_cells : Nat → Int32)  (x1 : Int32) (K : Int32 → Prop) : Prop :=
  ((x1 = 12 →
    xp_X3_wrongSlates f_cells (fun r3 =>
      K r3
    )
  ) ∧ (¬ x1 = 12 →
  ((x1 = 13 →
    xp_X3_marked f_cells 14 (fun r5 =>
      K r5
    )
  ) ∧ (¬ x1 = 13 →
  ((x1 = 14 →
    xp_X3_circledSeconds f_cells (fun r7 =>
      K r7
    )
  ) ∧ (¬ x1 = 14 →
  ((x1 = 15 →
    xp_X3_marked f_cells 15 (fun r9 =>
      K r9
    )
  ) ∧ (¬ x1 = 15 →
  ((x1 = 16 →
    xp_X3_unlikeSounds f_cells (fun r11 =>
      K r11
    )
  ) ∧ (¬ x1 = 16 →
    ((x1 < 0 →
      K (-1 : Int32)
    ) ∧ (¬ x1 < 0 →
      ((x1 ≤ 11 →
        (vp_in x1 400) ∧
        K (f_cells x1.toNatClampNeg)
      ) ∧ (¬ x1 ≤ 11 →
        K (-1 : Int32)
      ))
    ))
  ))))))))))
def xp_X3_ofScene_17  (f_cells : Nat → Int32) (K : Int32 → Prop)  : Nat → Int32 → Int32 → Int32 → Int32 → Int32 → Int32 → Int32 → Int32 → Prop
  | 0, _, _, _, _, _, _, _, _ => False
  | n + 1, v1, v2, v3, v4, v5, v6, v7, v8 =>
    xp_X3_takes f_cells (fun r1 =>
      ((r1 ≤ v8 →
        ((v2 = 0 →
          K v3
        ) ∧ (¬ v2 = 0 →
        ((v2 = 1 →
          K v4
        ) ∧ (¬ v2 = 1 →
        ((v2 = 2 →
          xp_J6_bitCount_0f7a4 v6 (fun r7 =>
            K r7
          )
        ) ∧ (¬ v2 = 2 →
        ((v2 = 3 →
          K v5
        ) ∧ (¬ v2 = 3 →
          xp_J6_bitCount_0f7a4 (v6 &&& (v7 ^^^ (-1 : Int32))) (fun r9 =>
            K r9
          )
        ))))))))
      ) ∧ (¬ r1 ≤ v8 →
        xp_X3_of f_cells v8 0 (fun r10 =>
          ((¬ r10 = v1 →
            xp_X3_ofScene_17 f_cells K n v1 v2 v3 v4 v5 v6 v7 (v8 + 1)
          ) ∧ (r10 = v1 →
            xp_X3_of f_cells v8 14 (fun r12 =>
              xp_X3_of f_cells v8 8 (fun r13 =>
                xp_X3_of f_cells v8 1 (fun r14 =>
                  xp_X3_of f_cells v8 14 (fun r15 =>
                    xp_X3_of f_cells v8 1 (fun r16 =>
                      xp_X3_ofScene_17 f_cells K n v1 v2 (v3 + 1) (v4 + r12) (v5 + r13) (v6 ||| ((1 : Int32) <<< (r14 &&& 31))) (v7 ||| (r15 <<< (r16 &&& 31))) (v8 + 1)
                    )
                  )
                )
              )
            )
          ))
        )
      ))
    )
def xp_X3_ofScene  (f_cells : Nat → Int32)  (x1 : Int32) (x2 : Int32) (K : Int32 → Prop) : Prop :=
  ∃ n9, xp_X3_ofScene_17 f_cells K n9 x1 x2 0 0 0 0 0 0
def xp_X3_nextNumber  (f_cells : Nat → Int32)   (K : Int32 → Prop) : Prop :=
  xp_X3_takes f_cells (fun r1 =>
    xp_X3_numberBehind f_cells r1 (f_cells 1) (f_cells 2) (fun r2 =>
      K r2
    )
  )
def xp_X3_boardIsRight  (f_cells : Nat → Int32)   (K : Int32 → Prop) : Prop :=
  ((¬ (f_cells 3) = (f_cells 1) →
    K (0 : Int32)
  ) ∧ ((f_cells 3) = (f_cells 1) →
    ((¬ (f_cells 4) = (f_cells 2) →
      K (0 : Int32)
    ) ∧ ((f_cells 4) = (f_cells 2) →
      xp_X3_nextNumber f_cells (fun r3 =>
        ((¬ (f_cells 5) = r3 →
          K (0 : Int32)
        ) ∧ ((f_cells 5) = r3 →
          K (1 : Int32)
        ))
      )
    ))
  ))
def xp_X3_saidSo_3  (f_cells : Nat → Int32) (K : Int32 → Prop)  : Nat → Int32 → Int32 → Int32 → Int32 → Prop
  | 0, _, _, _, _ => False
  | n + 1, v1, v2, v3, v4 =>
    xp_X3_takes f_cells (fun r1 =>
      ((r1 ≤ v4 →
        K (-1 : Int32)
      ) ∧ (¬ r1 ≤ v4 →
        xp_X3_said f_cells v4 v1 v2 v3 (fun r3 =>
          ((r3 = 0 →
            xp_X3_saidSo_3 f_cells K n v1 v2 v3 (v4 + 1)
          ) ∧ (¬ r3 = 0 →
            K v4
          ))
        )
      ))
    )
def xp_X3_saidSo  (f_cells : Nat → Int32)  (x1 : Int32) (x2 : Int32) (x3 : Int32) (K : Int32 → Prop) : Prop :=
  ∃ n9, xp_X3_saidSo_3 f_cells K n9 x1 x2 x3 0
def xp_X3_meantSo_3  (f_cells : Nat → Int32) (K : Int32 → Prop)  : Nat → Int32 → Int32 → Int32 → Int32 → Prop
  | 0, _, _, _, _ => False
  | n + 1, v1, v2, v3, v4 =>
    xp_X3_takes f_cells (fun r1 =>
      ((r1 ≤ v4 →
        K (-1 : Int32)
      ) ∧ (¬ r1 ≤ v4 →
        xp_X3_of f_cells v4 0 (fun r3 =>
          ((¬ r3 = v1 →
            xp_X3_meantSo_3 f_cells K n v1 v2 v3 (v4 + 1)
          ) ∧ (r3 = v1 →
            xp_X3_of f_cells v4 1 (fun r5 =>
              ((¬ r5 = v2 →
                xp_X3_meantSo_3 f_cells K n v1 v2 v3 (v4 + 1)
              ) ∧ (r5 = v2 →
                xp_X3_of f_cells v4 15 (fun r7 =>
                  ((¬ r7 = 0 →
                    xp_X3_meantSo_3 f_cells K n v1 v2 v3 (v4 + 1)
                  ) ∧ (r7 = 0 →
                    xp_X3_rightNumber f_cells v4 (fun r9 =>
                      ((¬ r9 = v3 →
                        xp_X3_meantSo_3 f_cells K n v1 v2 v3 (v4 + 1)
                      ) ∧ (r9 = v3 →
                        K v4
                      ))
                    )
                  ))
                )
              ))
            )
          ))
        )
      ))
    )
def xp_X3_meantSo  (f_cells : Nat → Int32)  (x1 : Int32) (x2 : Int32) (x3 : Int32) (K : Int32 → Prop) : Prop :=
  ∃ n9, xp_X3_meantSo_3 f_cells K n9 x1 x2 x3 0
def xp_X3_holds  (f_cells : Nat → Int32)  (x1 : Int32) (x2 : Int32) (x3 : Int32) (K : Int32 → Prop) : Prop :=
  xp_X3_of f_cells x1 x2 (fun r1 =>
    ((x3 < r1 →
      K (0 : Int32)
    ) ∧ (¬ x3 < r1 →
      xp_X3_of f_cells x1 x2 (fun r3 =>
        xp_X3_of f_cells x1 8 (fun r4 =>
          (((r3 + r4) ≤ x3 →
            K (0 : Int32)
          ) ∧ (¬ (r3 + r4) ≤ x3 →
            K (1 : Int32)
          ))
        )
      )
    ))
  )
def xp_X3_meetsOwn  (f_cells : Nat → Int32)  (x1 : Int32) (x2 : Int32) (K : Int32 → Prop) : Prop :=
  xp_X3_of f_cells x1 13 (fun r1 =>
    xp_X3_of f_cells x1 12 (fun r2 =>
      xp_X3_of f_cells x1 8 (fun r3 =>
        ((r3 ≤ (if 0 ≤ ((r1 - r2) + x2) then ((r1 - r2) + x2) else 0 - ((r1 - r2) + x2)) →
          K (0 : Int32)
        ) ∧ (¬ r3 ≤ (if 0 ≤ ((r1 - r2) + x2) then ((r1 - r2) + x2) else 0 - ((r1 - r2) + x2)) →
          K (1 : Int32)
        ))
      )
    )
  )
def xp_X3_sounds_4  (f_cells : Nat → Int32) (K : Int32 → Prop)  : Nat → Int32 → Int32 → Prop
  | 0, _, _ => False
  | n + 1, v1, v2 =>
    xp_X3_takes f_cells (fun r1 =>
      ((r1 ≤ v2 →
        K v1
      ) ∧ (¬ r1 ≤ v2 →
        xp_X3_hasSound f_cells v2 (fun r3 =>
          ((r3 = 0 →
            xp_X3_sounds_4 f_cells K n v1 (v2 + 1)
          ) ∧ (¬ r3 = 0 →
            xp_X3_sounds_4 f_cells K n (v1 + 1) (v2 + 1)
          ))
        )
      ))
    )
def xp_X3_sounds  (f_cells : Nat → Int32)   (K : Int32 → Prop) : Prop :=
  ∃ n9, xp_X3_sounds_4 f_cells K n9 0 0
def xp_X3_keptSounds_4  (f_cells : Nat → Int32) (K : Int32 → Prop)  : Nat → Int32 → Int32 → Int32 → Prop
  | 0, _, _, _ => False
  | n + 1, v1, v2, v3 =>
    xp_X3_takes f_cells (fun r1 =>
      ((r1 ≤ v3 →
        K v2
      ) ∧ (¬ r1 ≤ v3 →
        xp_X3_hasSound f_cells v3 (fun r3 =>
          ((r3 = 0 →
            xp_X3_keptSounds_4 f_cells K n v1 v2 (v3 + 1)
          ) ∧ (¬ r3 = 0 →
            xp_X3_meetsOwn f_cells v3 v1 (fun r5 =>
              ((r5 = 0 →
                xp_X3_keptSounds_4 f_cells K n v1 v2 (v3 + 1)
              ) ∧ (¬ r5 = 0 →
                xp_X3_soundFor f_cells v3 v1 (fun r7 =>
                  ((¬ r7 = v3 →
                    xp_X3_keptSounds_4 f_cells K n v1 v2 (v3 + 1)
                  ) ∧ (r7 = v3 →
                    xp_X3_keptSounds_4 f_cells K n v1 (v2 + 1) (v3 + 1)
                  ))
                )
              ))
            )
          ))
        )
      ))
    )
def xp_X3_keptSounds  (f_cells : Nat → Int32)  (x1 : Int32) (K : Int32 → Prop) : Prop :=
  ∃ n9, xp_X3_keptSounds_4 f_cells K n9 x1 0 0
def xp_X3_mean   (f_cells : Nat → Int32) (x1 : Int32) (x2 : Int32) (K : Int32 → ((Nat → Int32)) → Prop) : Prop :=
  K (1 : Int32) (upd (upd f_cells 1 x1) 2 x2)
def xp_X3_write   (f_cells : Nat → Int32) (x1 : Int32) (x2 : Int32) (x3 : Int32) (K : ((Nat → Int32)) → Prop) : Prop :=
  K (upd (upd (upd f_cells 3 x1) 4 x2) 5 x3)
def xp_X3_writeRight   (f_cells : Nat → Int32)  (K : Int32 → ((Nat → Int32)) → Prop) : Prop :=
  xp_X3_nextNumber f_cells (fun r1 =>
    xp_X3_write f_cells (f_cells 1) (f_cells 2) r1 (fun u2 =>
      K (1 : Int32) (u2)
    )
  )
def xp_X3_canFilm  (f_cells : Nat → Int32)   (K : Int32 → Prop) : Prop :=
  xp_X3_takes f_cells (fun r1 =>
    ((24 ≤ r1 →
      K (0 : Int32)
    ) ∧ (¬ 24 ≤ r1 →
      xp_X3_cameraLeft f_cells (fun r3 =>
        ((r3 ≤ 0 →
          K (0 : Int32)
        ) ∧ (¬ r3 ≤ 0 →
          K (1 : Int32)
        ))
      )
    ))
  )
def xp_X4_isLength    (x1 : Int32) (K : Int32 → Prop) : Prop :=
  ((x1 < 1 →
    K (0 : Int32)
  ) ∧ (¬ x1 < 1 →
    ((120 < x1 →
      K (0 : Int32)
    ) ∧ (¬ 120 < x1 →
      K (1 : Int32)
    ))
  ))
def xp_X3_latestFile_4  (f_cells : Nat → Int32) (K : Int32 → Prop)  : Nat → Int32 → Int32 → Prop
  | 0, _, _ => False
  | n + 1, v1, v2 =>
    xp_X3_takes f_cells (fun r1 =>
      ((r1 ≤ v2 →
        K v1
      ) ∧ (¬ r1 ≤ v2 →
        xp_X3_of f_cells v2 9 (fun r3 =>
          ((¬ r3 = (f_cells 8) →
            xp_X3_latestFile_4 f_cells K n v1 (v2 + 1)
          ) ∧ (r3 = (f_cells 8) →
            xp_X3_of f_cells v2 11 (fun r5 =>
              xp_X3_latestFile_4 f_cells K n r5 (v2 + 1)
            )
          ))
        )
      ))
    )
def xp_X3_latestFile  (f_cells : Nat → Int32)   (K : Int32 → Prop) : Prop :=
  ∃ n9, xp_X3_latestFile_4 f_cells K n9 0 0
def xp_X3_record_62   (K : ((Nat → Int32)) → Prop)  (f_cells : Nat → Int32) (v1 : Int32) (v2 : Int32) (t0 : Int32) (t2 : Int32) : Prop :=
  xp_X3_put f_cells t2 10 t0 (fun u1 =>
    ((v2 = 0 →
      K (u1)
    ) ∧ (¬ v2 = 0 →
      xp_X3_of u1 v1 8 (fun r3 =>
        K (upd u1 9 ((u1 9) + r3))
      )
    ))
  )
def xp_X3_record_40   (K : ((Nat → Int32)) → Prop)  (f_cells : Nat → Int32) (v1 : Int32) (v2 : Int32) (t0 : Int32) (t2 : Int32) : Prop :=
  xp_X3_put f_cells t2 9 t0 (fun u1 =>
    ((v2 = 0 →
      xp_X3_record_62 K u1 v1 v2 (-1 : Int32) v1
    ) ∧ (¬ v2 = 0 →
      xp_X3_record_62 K u1 v1 v2 (u1 9) v1
    ))
  )
def xp_X3_record_18   (K : ((Nat → Int32)) → Prop)  (f_cells : Nat → Int32) (v1 : Int32) (v2 : Int32) (t0 : Int32) (t2 : Int32) : Prop :=
  xp_X3_put f_cells t2 11 t0 (fun u1 =>
    ((v2 = 0 →
      xp_X3_record_40 K u1 v1 v2 (-1 : Int32) v1
    ) ∧ (¬ v2 = 0 →
      xp_X3_record_40 K u1 v1 v2 (u1 8) v1
    ))
  )
def xp_X3_record   (f_cells : Nat → Int32) (x1 : Int32) (x2 : Int32) (K : ((Nat → Int32)) → Prop) : Prop :=
  ((x2 = 0 →
    xp_X3_record_18 K f_cells x1 x2 (-1 : Int32) x1
  ) ∧ (¬ x2 = 0 →
    xp_X3_latestFile f_cells (fun r2 =>
      xp_X3_record_18 K f_cells x1 x2 (r2 + 1) x1
    )
  ))
def xp_X3_film_193   (K : Int32 → ((Nat → Int32)) → Prop)  (f_cells : Nat → Int32) (v3 : Int32) (v4 : Int32) (t0 : Int32) (t1 : Int32) : Prop :=
  xp_X3_record f_cells t1 t0 (fun u1 =>
    xp_X3_chosen (upd u1 7 ((u1 7) + v4)) 2 (fun r2 =>
      xp_X3_chosen (upd (upd (upd u1 7 ((u1 7) + v4)) 10 ((u1 10) + (v4 + r2))) 0 (v3 + 1)) 3 (fun r3 =>
        ((¬ r3 = 1 →
          K v4 (upd (upd (upd u1 7 ((u1 7) + v4)) 10 ((u1 10) + (v4 + r2))) 0 (v3 + 1))
        ) ∧ (r3 = 1 →
          K v4 (upd (upd (upd (upd u1 7 ((u1 7) + v4)) 10 ((u1 10) + (v4 + r2))) 0 (v3 + 1)) 5 (if ((u1 5) + 1) < 99 then ((u1 5) + 1) else 99))
        ))
      )
    )
  )
def xp_X3_film   (f_cells : Nat → Int32) (x1 : Int32) (x2 : Int32) (K : Int32 → ((Nat → Int32)) → Prop) : Prop :=
  xp_X3_takes f_cells (fun r1 =>
    xp_X3_cameraLeft f_cells (fun r2 =>
      xp_X3_put f_cells r1 0 (f_cells 1) (fun u3 =>
        xp_X3_put u3 r1 1 (u3 2) (fun u4 =>
          xp_X3_put u4 r1 3 (u4 3) (fun u5 =>
            xp_X3_put u5 r1 4 (u5 4) (fun u6 =>
              xp_X3_put u6 r1 5 (u6 5) (fun u7 =>
                xp_X3_put u7 r1 6 (u7 6) (fun u8 =>
                  xp_X3_put u8 r1 7 (u8 7) (fun u9 =>
                    xp_X3_put u9 r1 8 (if r2 < x1 then r2 else x1) (fun u10 =>
                      xp_X3_put u10 r1 12 (u10 10) (fun u11 =>
                        xp_X3_put u11 r1 13 ((u11 10) + (u11 11)) (fun u12 =>
                          xp_X3_put u12 r1 14 0 (fun u13 =>
                            xp_X3_put u13 r1 15 0 (fun u14 =>
                              ((x2 = 0 →
                                xp_X3_film_193 K u14 r1 (if r2 < x1 then r2 else x1) 0 r1
                              ) ∧ (¬ x2 = 0 →
                                xp_X3_chosen u14 1 (fun r16 =>
                                  (((r16 - (u14 9)) < (if r2 < x1 then r2 else x1) →
                                    xp_X3_film_193 K u14 r1 (if r2 < x1 then r2 else x1) 0 r1
                                  ) ∧ (¬ (r16 - (u14 9)) < (if r2 < x1 then r2 else x1) →
                                    xp_X3_film_193 K u14 r1 (if r2 < x1 then r2 else x1) 1 r1
                                  ))
                                )
                              ))
                            )
                          )
                        )
                      )
                    )
                  )
                )
              )
            )
          )
        )
      )
    )
  )
def xp_X3_tryToFilm   (f_cells : Nat → Int32) (x1 : Int32) (x2 : Int32) (K : Int32 → ((Nat → Int32)) → Prop) : Prop :=
  xp_X4_isLength x1 (fun r1 =>
    ((r1 = 0 →
      K (0 : Int32) (f_cells)
    ) ∧ (¬ r1 = 0 →
      xp_X3_canFilm f_cells (fun r3 =>
        ((¬ r3 = 0 →
          xp_X3_film f_cells x1 x2 (fun r5 u5 =>
            K (1 : Int32) (u5)
          )
        ) ∧ (r3 = 0 →
          K (0 : Int32) (f_cells)
        ))
      )
    ))
  )
def xp_X3_loadCamera   (f_cells : Nat → Int32)  (K : Int32 → ((Nat → Int32)) → Prop) : Prop :=
  K ((f_cells 6) + 1) (upd (upd f_cells 6 ((f_cells 6) + 1)) 7 0)
def xp_X3_loadSound   (f_cells : Nat → Int32)  (K : Int32 → ((Nat → Int32)) → Prop) : Prop :=
  K ((f_cells 8) + 1) (upd (upd f_cells 8 ((f_cells 8) + 1)) 9 0)
def xp_X3_mark_22   (K : Int32 → ((Nat → Int32)) → Prop)  (f_cells : Nat → Int32) (t0 : Int32) (t1 : Int32) (t2 : Int32) : Prop :=
  xp_X3_put f_cells t2 t1 t0 (fun u1 =>
    K (1 : Int32) (u1)
  )
def xp_X3_mark   (f_cells : Nat → Int32) (x1 : Int32) (x2 : Int32) (x3 : Int32) (K : Int32 → ((Nat → Int32)) → Prop) : Prop :=
  xp_X3_hasTake f_cells x1 (fun r1 =>
    ((¬ r1 = 0 →
      ((x3 = 0 →
        xp_X3_mark_22 K f_cells 0 x2 x1
      ) ∧ (¬ x3 = 0 →
        xp_X3_mark_22 K f_cells 1 x2 x1
      ))
    ) ∧ (r1 = 0 →
      K (0 : Int32) (f_cells)
    ))
  )
def xp_X3_putRight   (f_cells : Nat → Int32) (x1 : Int32) (K : Int32 → ((Nat → Int32)) → Prop) : Prop :=
  xp_X3_hasTake f_cells x1 (fun r1 =>
    ((r1 = 0 →
      K (0 : Int32) (f_cells)
    ) ∧ (¬ r1 = 0 →
      xp_X3_isRight f_cells x1 (fun r3 =>
        ((r3 = 0 →
          xp_X3_of f_cells x1 0 (fun r5 =>
            xp_X3_put f_cells x1 3 r5 (fun u6 =>
              xp_X3_of u6 x1 1 (fun r7 =>
                xp_X3_put u6 x1 4 r7 (fun u8 =>
                  xp_X3_rightNumber u8 x1 (fun r9 =>
                    xp_X3_put u8 x1 5 r9 (fun u10 =>
                      K (1 : Int32) (u10)
                    )
                  )
                )
              )
            )
          )
        ) ∧ (¬ r3 = 0 →
          K (0 : Int32) (f_cells)
        ))
      )
    ))
  )
def xp_X3_setOff   (f_cells : Nat → Int32) (x1 : Int32) (K : Int32 → ((Nat → Int32)) → Prop) : Prop :=
  K (f_cells 11) (upd f_cells 11 x1)
def xp_X3_choose   (f_cells : Nat → Int32) (x1 : Int32) (x2 : Int32) (K : Int32 → ((Nat → Int32)) → Prop) : Prop :=
  xp_X3_chosen f_cells x1 (fun r1 =>
    (((12 + x1) < 12 →
      K r1 (f_cells)
    ) ∧ (¬ (12 + x1) < 12 →
      ((15 < (12 + x1) →
        K r1 (f_cells)
      ) ∧ (¬ 15 < (12 + x1) →
        (vp_in (12 + x1) 400) ∧
        K r1 (upd f_cells ((12 + x1).toNatClampNeg) x2)
      ))
    ))
  )
def xp_X4_clearText   (f_text_length : Int32)  (K : Int32 → Int32 → Prop) : Prop :=
  xp_X0_empty f_text_length (fun r1 u1 =>
    K r1 (u1)
  )
def xp_X4_errorPosition  (f_text_signs : Nat → Int32) (f_text_length : Int32) (f_text_at : Int32) (f_text_command : Int32) (f_text_scene : Int32) (f_text_letter : Int32) (f_text_number : Int32)  (K : Int32 → (Int32 × Int32 × Int32 × Int32 × Int32) → Prop) : Prop :=
  xp_X0_firstError f_text_signs f_text_length f_text_at f_text_command f_text_scene f_text_letter f_text_number (fun r1 u1 =>
    K r1 (u1.1, u1.2.1, u1.2.2.1, u1.2.2.2.1, u1.2.2.2.2)
  )
def xp_X4_forget   (f_remembered : Int32) (f_oldest : Int32)  (K : (Int32 × Int32) → Prop) : Prop :=
  K (0, 0)
def xp_X4_obeyCommand  (f_text_command : Int32) (f_text_scene : Int32) (f_text_letter : Int32) (f_text_number : Int32) (f_now_cells : Nat → Int32)  (K : Int32 → ((Nat → Int32)) → Prop) : Prop :=
  ((f_text_command = 98 →
    xp_X3_write f_now_cells f_text_scene f_text_letter f_text_number (fun u3 =>
      K (1 : Int32) (u3)
    )
  ) ∧ (¬ f_text_command = 98 →
  ((f_text_command = 99 →
    xp_X3_mean f_now_cells f_text_scene f_text_letter (fun r5 u5 =>
      K (1 : Int32) (u5)
    )
  ) ∧ (¬ f_text_command = 99 →
  ((f_text_command = 100 →
    xp_X3_setOff f_now_cells (f_text_number - 50) (fun r7 u7 =>
      K (1 : Int32) (u7)
    )
  ) ∧ (¬ f_text_command = 100 →
  ((f_text_command = 101 →
    xp_X3_setOff f_now_cells (f_text_number - 50) (fun r9 u9 =>
      K (1 : Int32) (u9)
    )
  ) ∧ (¬ f_text_command = 101 →
  ((f_text_command = 102 →
    xp_X3_mark f_now_cells f_text_number 15 1 (fun r11 u11 =>
      (narrow .boolean (.int r11) = .int r11) ∧
      K r11 (u11)
    )
  ) ∧ (¬ f_text_command = 102 →
  ((f_text_command = 103 →
    xp_X3_setOff f_now_cells (f_text_number - 50) (fun r13 u13 =>
      K (1 : Int32) (u13)
    )
  ) ∧ (¬ f_text_command = 103 →
  ((f_text_command = 104 →
    xp_X3_setOff f_now_cells (f_text_number - 50) (fun r15 u15 =>
      K (1 : Int32) (u15)
    )
  ) ∧ (¬ f_text_command = 104 →
  ((f_text_command = 105 →
    xp_X3_setOff f_now_cells (f_text_number - 50) (fun r17 u17 =>
      K (1 : Int32) (u17)
    )
  ) ∧ (¬ f_text_command = 105 →
  ((f_text_command = 106 →
    xp_X3_setOff f_now_cells (f_text_number - 50) (fun r19 u19 =>
      K (1 : Int32) (u19)
    )
  ) ∧ (¬ f_text_command = 106 →
  ((f_text_command = 107 →
    xp_X3_setOff f_now_cells (f_text_number - 50) (fun r21 u21 =>
      K (1 : Int32) (u21)
    )
  ) ∧ (¬ f_text_command = 107 →
  ((f_text_command = 108 →
    xp_X3_setOff f_now_cells (f_text_number - 50) (fun r23 u23 =>
      K (1 : Int32) (u23)
    )
  ) ∧ (¬ f_text_command = 108 →
  ((f_text_command = 109 →
    ((¬ f_text_command = 116 →
      xp_X3_tryToFilm f_now_cells f_text_number 0 (fun r26 u26 =>
        (narrow .boolean (.int r26) = .int r26) ∧
        K r26 (u26)
      )
    ) ∧ (f_text_command = 116 →
      xp_X3_tryToFilm f_now_cells f_text_number 1 (fun r27 u27 =>
        (narrow .boolean (.int r27) = .int r27) ∧
        K r27 (u27)
      )
    ))
  ) ∧ (¬ f_text_command = 109 →
  ((f_text_command = 110 →
    xp_X3_loadCamera f_now_cells (fun r29 u29 =>
      K (1 : Int32) (u29)
    )
  ) ∧ (¬ f_text_command = 110 →
  ((f_text_command = 111 →
    xp_X3_mark f_now_cells f_text_number 14 1 (fun r31 u31 =>
      (narrow .boolean (.int r31) = .int r31) ∧
      K r31 (u31)
    )
  ) ∧ (¬ f_text_command = 111 →
  ((f_text_command = 112 →
    xp_X3_setOff f_now_cells (f_text_number - 50) (fun r33 u33 =>
      K (1 : Int32) (u33)
    )
  ) ∧ (¬ f_text_command = 112 →
  ((f_text_command = 113 →
    xp_X3_setOff f_now_cells (f_text_number - 50) (fun r35 u35 =>
      K (1 : Int32) (u35)
    )
  ) ∧ (¬ f_text_command = 113 →
  ((f_text_command = 114 →
    xp_X3_writeRight f_now_cells (fun r37 u37 =>
      K (1 : Int32) (u37)
    )
  ) ∧ (¬ f_text_command = 114 →
  ((f_text_command = 115 →
    xp_X3_loadSound f_now_cells (fun r39 u39 =>
      K (1 : Int32) (u39)
    )
  ) ∧ (¬ f_text_command = 115 →
  ((f_text_command = 116 →
    ((¬ f_text_command = 116 →
      xp_X3_tryToFilm f_now_cells f_text_number 0 (fun r42 u42 =>
        (narrow .boolean (.int r42) = .int r42) ∧
        K r42 (u42)
      )
    ) ∧ (f_text_command = 116 →
      xp_X3_tryToFilm f_now_cells f_text_number 1 (fun r43 u43 =>
        (narrow .boolean (.int r43) = .int r43) ∧
        K r43 (u43)
      )
    ))
  ) ∧ (¬ f_text_command = 116 →
    xp_X3_setOff f_now_cells (f_text_number - 50) (fun r44 u44 =>
      K (1 : Int32) (u44)
    )
  ))))))))))))))))))))))))))))))))))))))
def xp_X4_obeyText_12  (f_text_signs : Nat → Int32) (f_text_length : Int32) (K : Int32 → ((Nat → Int32) × Int32 × Int32 × Int32 × Int32 × Int32) → Prop)  : Nat → (Nat → Int32) → Int32 → Int32 → Int32 → Int32 → Int32 → Int32 → Int32 → Prop
  | 0, _, _, _, _, _, _, _, _ => False
  | n + 1, f_now_cells, f_text_at, f_text_command, f_text_scene, f_text_letter, f_text_number, v1, v2 =>
    ((120 ≤ v2 →
      K v1 (f_now_cells, f_text_at, f_text_command, f_text_scene, f_text_letter, f_text_number)
    ) ∧ (¬ 120 ≤ v2 →
      xp_X0_hasMore f_text_length f_text_at (fun r2 =>
        ((r2 = 0 →
          K v1 (f_now_cells, f_text_at, f_text_command, f_text_scene, f_text_letter, f_text_number)
        ) ∧ (¬ r2 = 0 →
          xp_X0_readCommand f_text_signs f_text_length f_text_at f_text_command f_text_scene f_text_letter f_text_number (fun r4 u4 =>
            ((r4 = 0 →
              K v1 (f_now_cells, u4.1, u4.2.1, u4.2.2.1, u4.2.2.2.1, u4.2.2.2.2)
            ) ∧ (¬ r4 = 0 →
              xp_X4_obeyCommand u4.2.1 u4.2.2.1 u4.2.2.2.1 u4.2.2.2.2 f_now_cells (fun r6 u6 =>
                ((¬ r6 = 0 →
                  xp_X4_obeyText_12 f_text_signs f_text_length K n u6 u4.1 u4.2.1 u4.2.2.1 u4.2.2.2.1 u4.2.2.2.2 v1 (v2 + 1)
                ) ∧ (r6 = 0 →
                  xp_X4_obeyText_12 f_text_signs f_text_length K n u6 u4.1 u4.2.1 u4.2.2.1 u4.2.2.2.1 u4.2.2.2.2 (v1 + 1) (v2 + 1)
                ))
              )
            ))
          )
        ))
      )
    ))
def xp_X4_obeyText  (f_text_signs : Nat → Int32) (f_text_length : Int32) (f_now_cells : Nat → Int32) (f_text_at : Int32) (f_text_command : Int32) (f_text_scene : Int32) (f_text_letter : Int32) (f_text_number : Int32)  (K : Int32 → ((Nat → Int32) × Int32 × Int32 × Int32 × Int32 × Int32) → Prop) : Prop :=
  xp_X0_startReading f_text_signs f_text_length f_text_at (fun r1 u1 =>
    ∃ n9, xp_X4_obeyText_12 f_text_signs f_text_length K n9 f_now_cells u1 f_text_command f_text_scene f_text_letter f_text_number 0 0
  )
def xp_X4_isSetup    (x1 : Int32) (x2 : Int32) (K : Int32 → Prop) : Prop :=
  ((x1 < 1 →
    K (0 : Int32)
  ) ∧ (¬ x1 < 1 →
    ((99 < x1 →
      K (0 : Int32)
    ) ∧ (¬ 99 < x1 →
      ((x2 < 0 →
        K (0 : Int32)
      ) ∧ (¬ x2 < 0 →
        ((25 < x2 →
          K (0 : Int32)
        ) ∧ (¬ 25 < x2 →
          K (1 : Int32)
        ))
      ))
    ))
  ))
def xp_X4_remember_32  (f_now_cells : Nat → Int32) (K : ((Nat → Int32) × Int32 × Int32) → Prop)  (f_past_cells : Nat → Int32) (f_remembered : Int32) (f_oldest : Int32) : Prop :=
  xp_X2_store 5600 14 f_now_cells f_past_cells ((f_oldest + f_remembered) - (f_oldest + f_remembered) / 14 * 14) (fun u1 =>
    K (u1, f_remembered + 1, f_oldest)
  )
def xp_X4_remember  (f_now_cells : Nat → Int32) (f_past_cells : Nat → Int32) (f_remembered : Int32) (f_oldest : Int32)  (K : ((Nat → Int32) × Int32 × Int32) → Prop) : Prop :=
  ((¬ f_remembered = 14 →
    xp_X4_remember_32 f_now_cells K f_past_cells f_remembered f_oldest
  ) ∧ (f_remembered = 14 →
    xp_X4_remember_32 f_now_cells K f_past_cells (f_remembered - 1) ((f_oldest + 1) - (f_oldest + 1) / 14 * 14)
  ))
def xp_X4_right   (f_now_cells : Nat → Int32) (f_past_cells : Nat → Int32) (f_remembered : Int32) (f_oldest : Int32)  (K : Int32 → ((Nat → Int32) × (Nat → Int32) × Int32 × Int32) → Prop) : Prop :=
  xp_X4_remember f_now_cells f_past_cells f_remembered f_oldest (fun u1 =>
    xp_X3_writeRight f_now_cells (fun r2 u2 =>
      xp_X3_nextNumber u2 (fun r3 =>
        K r3 (u2, u1.1, u1.2.1, u1.2.2)
      )
    )
  )
def xp_X4_newCamera   (f_now_cells : Nat → Int32) (f_past_cells : Nat → Int32) (f_remembered : Int32) (f_oldest : Int32)  (K : Int32 → ((Nat → Int32) × (Nat → Int32) × Int32 × Int32) → Prop) : Prop :=
  xp_X4_remember f_now_cells f_past_cells f_remembered f_oldest (fun u1 =>
    xp_X3_loadCamera f_now_cells (fun r2 u2 =>
      K r2 (u2, u1.1, u1.2.1, u1.2.2)
    )
  )
def xp_X4_newSound   (f_now_cells : Nat → Int32) (f_past_cells : Nat → Int32) (f_remembered : Int32) (f_oldest : Int32)  (K : Int32 → ((Nat → Int32) × (Nat → Int32) × Int32 × Int32) → Prop) : Prop :=
  xp_X4_remember f_now_cells f_past_cells f_remembered f_oldest (fun u1 =>
    xp_X3_loadSound f_now_cells (fun r2 u2 =>
      K r2 (u2, u1.1, u1.2.1, u1.2.2)
    )
  )
def xp_X4_find  (f_now_cells : Nat → Int32)  (x1 : Int32) (x2 : Int32) (x3 : Int32) (x4 : Int32) (K : Int32 → Prop) : Prop :=
  ((x4 = 0 →
    xp_X3_meantSo f_now_cells x1 x2 x3 (fun r2 =>
      K r2
    )
  ) ∧ (¬ x4 = 0 →
    xp_X3_saidSo f_now_cells x1 x2 x3 (fun r3 =>
      K r3
    )
  ))
def xp_X4_atCamera_2  (f_now_cells : Nat → Int32) (K : Int32 → Prop)  : Nat → Int32 → Int32 → Int32 → Prop
  | 0, _, _, _ => False
  | n + 1, v1, v2, v3 =>
    xp_X3_takes f_now_cells (fun r1 =>
      ((r1 ≤ v3 →
        K (-1 : Int32)
      ) ∧ (¬ r1 ≤ v3 →
        xp_X3_of f_now_cells v3 6 (fun r3 =>
          ((¬ r3 = v1 →
            xp_X4_atCamera_2 f_now_cells K n v1 v2 (v3 + 1)
          ) ∧ (r3 = v1 →
            xp_X3_holds f_now_cells v3 7 v2 (fun r5 =>
              ((r5 = 0 →
                xp_X4_atCamera_2 f_now_cells K n v1 v2 (v3 + 1)
              ) ∧ (¬ r5 = 0 →
                K v3
              ))
            )
          ))
        )
      ))
    )
def xp_X4_atCamera  (f_now_cells : Nat → Int32)  (x1 : Int32) (x2 : Int32) (K : Int32 → Prop) : Prop :=
  ∃ n9, xp_X4_atCamera_2 f_now_cells K n9 x1 x2 0
def xp_X4_atSound_2  (f_now_cells : Nat → Int32) (K : Int32 → Prop)  : Nat → Int32 → Int32 → Int32 → Prop
  | 0, _, _, _ => False
  | n + 1, v1, v2, v3 =>
    xp_X3_takes f_now_cells (fun r1 =>
      ((r1 ≤ v3 →
        K (-1 : Int32)
      ) ∧ (¬ r1 ≤ v3 →
        xp_X3_hasSound f_now_cells v3 (fun r3 =>
          ((r3 = 0 →
            xp_X4_atSound_2 f_now_cells K n v1 v2 (v3 + 1)
          ) ∧ (¬ r3 = 0 →
            xp_X3_of f_now_cells v3 9 (fun r5 =>
              ((¬ r5 = v1 →
                xp_X4_atSound_2 f_now_cells K n v1 v2 (v3 + 1)
              ) ∧ (r5 = v1 →
                xp_X3_holds f_now_cells v3 10 v2 (fun r7 =>
                  ((r7 = 0 →
                    xp_X4_atSound_2 f_now_cells K n v1 v2 (v3 + 1)
                  ) ∧ (¬ r7 = 0 →
                    K v3
                  ))
                )
              ))
            )
          ))
        )
      ))
    )
def xp_X4_atSound  (f_now_cells : Nat → Int32)  (x1 : Int32) (x2 : Int32) (K : Int32 → Prop) : Prop :=
  ∃ n9, xp_X4_atSound_2 f_now_cells K n9 x1 x2 0
def xp_X4_atTime_2  (f_now_cells : Nat → Int32) (K : Int32 → Prop)  : Nat → Int32 → Int32 → Prop
  | 0, _, _ => False
  | n + 1, v1, v2 =>
    xp_X3_takes f_now_cells (fun r1 =>
      ((r1 ≤ v2 →
        K (-1 : Int32)
      ) ∧ (¬ r1 ≤ v2 →
        xp_X3_holds f_now_cells v2 12 v1 (fun r3 =>
          ((r3 = 0 →
            xp_X4_atTime_2 f_now_cells K n v1 (v2 + 1)
          ) ∧ (¬ r3 = 0 →
            K v2
          ))
        )
      ))
    )
def xp_X4_atTime  (f_now_cells : Nat → Int32)  (x1 : Int32) (K : Int32 → Prop) : Prop :=
  ∃ n9, xp_X4_atTime_2 f_now_cells K n9 x1 0
def xp_X4_byFile_2  (f_now_cells : Nat → Int32) (K : Int32 → Prop)  : Nat → Int32 → Int32 → Int32 → Prop
  | 0, _, _, _ => False
  | n + 1, v1, v2, v3 =>
    xp_X3_takes f_now_cells (fun r1 =>
      ((r1 ≤ v3 →
        K (-1 : Int32)
      ) ∧ (¬ r1 ≤ v3 →
        xp_X3_hasSound f_now_cells v3 (fun r3 =>
          ((r3 = 0 →
            xp_X4_byFile_2 f_now_cells K n v1 v2 (v3 + 1)
          ) ∧ (¬ r3 = 0 →
            xp_X3_of f_now_cells v3 9 (fun r5 =>
              ((¬ r5 = v1 →
                xp_X4_byFile_2 f_now_cells K n v1 v2 (v3 + 1)
              ) ∧ (r5 = v1 →
                xp_X3_of f_now_cells v3 11 (fun r7 =>
                  ((¬ r7 = v2 →
                    xp_X4_byFile_2 f_now_cells K n v1 v2 (v3 + 1)
                  ) ∧ (r7 = v2 →
                    K v3
                  ))
                )
              ))
            )
          ))
        )
      ))
    )
def xp_X4_byFile  (f_now_cells : Nat → Int32)  (x1 : Int32) (x2 : Int32) (K : Int32 → Prop) : Prop :=
  ∃ n9, xp_X4_byFile_2 f_now_cells K n9 x1 x2 0
def xp_X4_bestShift_54  (f_now_cells : Nat → Int32) (K : Int32 → Prop) (X22 : Int32 → Int32 → Int32 → Int32 → Prop) (v1 : Int32) (v2 : Int32) (v3 : Int32) (v4 : Int32) (t0 : Int32) : Prop :=
  xp_X3_keptSounds f_now_cells t0 (fun r1 =>
    ((r1 ≤ v2 →
      X22 v1 v2 v3 (v4 + 1)
    ) ∧ (¬ r1 ≤ v2 →
      X22 t0 r1 v3 (v4 + 1)
    ))
  )
def xp_X4_bestShift_22  (f_now_cells : Nat → Int32) (K : Int32 → Prop)  : Nat → Int32 → Int32 → Int32 → Int32 → Prop
  | 0, _, _, _, _ => False
  | n + 1, v1, v2, v3, v4 =>
    ((199 < v4 →
      K v1
    ) ∧ (¬ 199 < v4 →
      ((v3 ≤ v2 →
        K v1
      ) ∧ (¬ v3 ≤ v2 →
        ((¬ (v4 - v4 / 2 * 2) = 0 →
          xp_X4_bestShift_54 f_now_cells K (fun v1 v2 v3 v4 => xp_X4_bestShift_22 f_now_cells K n v1 v2 v3 v4) v1 v2 v3 v4 (v4 / 2)
        ) ∧ ((v4 - v4 / 2 * 2) = 0 →
          xp_X4_bestShift_54 f_now_cells K (fun v1 v2 v3 v4 => xp_X4_bestShift_22 f_now_cells K n v1 v2 v3 v4) v1 v2 v3 v4 (-(v4 / 2))
        ))
      ))
    ))
def xp_X4_bestShift  (f_now_cells : Nat → Int32)   (K : Int32 → Prop) : Prop :=
  xp_X3_keptSounds f_now_cells 0 (fun r1 =>
    xp_X3_sounds f_now_cells (fun r2 =>
      ∃ n9, xp_X4_bestShift_22 f_now_cells K n9 0 r1 r2 2
    )
  )
def xp_X4_withoutGroups_5   (K : Int64 → Prop)  : Nat → Int32 → Int64 → Int32 → Prop
  | 0, _, _, _ => False
  | n + 1, v2, v3, v5 =>
    ((v2 ≤ v5 →
      K v3
    ) ∧ (¬ v2 ≤ v5 →
      xp_X4_withoutGroups_5 K n v2 (v3 / 100000) (v5 + 1)
    ))
def xp_X4_withoutGroups    (x1 : Int64) (x2 : Int32) (K : Int64 → Prop) : Prop :=
  ∃ n9, xp_X4_withoutGroups_5 K n9 x2 x1 0
def xp_X4_loadRoll   (f_copy_cells : Nat → Int32) (x1 : Int32) (K : Int32 → ((Nat → Int32)) → Prop) : Prop :=
  ((x1 = 0 →
    xp_X3_loadCamera f_copy_cells (fun r2 u2 =>
      K (1 : Int32) (u2)
    )
  ) ∧ (¬ x1 = 0 →
    xp_X3_loadSound f_copy_cells (fun r3 u3 =>
      K (1 : Int32) (u3)
    )
  ))
def xp_X4_succeeds_104   (K : Int32 → ((Nat → Int32)) → Prop)  (f_copy_cells : Nat → Int32) (t0 : Int32) (t1 : Int32) : Prop :=
  xp_X3_tryToFilm f_copy_cells t1 t0 (fun r1 u1 =>
    ((r1 = 0 →
      K (0 : Int32) (u1)
    ) ∧ (¬ r1 = 0 →
      K (1 : Int32) (u1)
    ))
  )
def xp_X4_succeeds_138   (K : Int32 → ((Nat → Int32)) → Prop)  (f_copy_cells : Nat → Int32) (t0 : Int32) : Prop :=
  xp_X4_loadRoll f_copy_cells t0 (fun r1 u1 =>
    ((r1 = 0 →
      K (0 : Int32) (u1)
    ) ∧ (¬ r1 = 0 →
      K (1 : Int32) (u1)
    ))
  )
def xp_X4_succeeds_174   (K : Int32 → ((Nat → Int32)) → Prop)  (f_copy_cells : Nat → Int32) (t0 : Int32) (t2 : Int32) : Prop :=
  xp_X3_mark f_copy_cells t2 15 t0 (fun r1 u1 =>
    ((r1 = 0 →
      K (0 : Int32) (u1)
    ) ∧ (¬ r1 = 0 →
      K (1 : Int32) (u1)
    ))
  )
def xp_X4_succeeds   (f_copy_cells : Nat → Int32) (x1 : Int32) (K : Int32 → ((Nat → Int32)) → Prop) : Prop :=
  (((x1 / 10000) = 1 →
    ((1 < ((x1 / 1000) - (x1 / 1000) / 10 * 10) →
      K (0 : Int32) (f_copy_cells)
    ) ∧ (¬ 1 < ((x1 / 1000) - (x1 / 1000) / 10 * 10) →
      ((¬ ((x1 / 1000) - (x1 / 1000) / 10 * 10) = 1 →
        xp_X4_succeeds_104 K f_copy_cells 0 (x1 - x1 / 1000 * 1000)
      ) ∧ (((x1 / 1000) - (x1 / 1000) / 10 * 10) = 1 →
        xp_X4_succeeds_104 K f_copy_cells 1 (x1 - x1 / 1000 * 1000)
      ))
    ))
  ) ∧ (¬ (x1 / 10000) = 1 →
  (((x1 / 10000) = 2 →
    ((¬ ((x1 / 100) - (x1 / 100) / 100 * 100) = 0 →
      K (0 : Int32) (f_copy_cells)
    ) ∧ (((x1 / 100) - (x1 / 100) / 100 * 100) = 0 →
      ((1 < (x1 - x1 / 100 * 100) →
        K (0 : Int32) (f_copy_cells)
      ) ∧ (¬ 1 < (x1 - x1 / 100 * 100) →
        ((¬ (x1 - x1 / 100 * 100) = 1 →
          xp_X4_succeeds_138 K f_copy_cells 0
        ) ∧ ((x1 - x1 / 100 * 100) = 1 →
          xp_X4_succeeds_138 K f_copy_cells 1
        ))
      ))
    ))
  ) ∧ (¬ (x1 / 10000) = 2 →
  (((x1 / 10000) = 3 →
    ((1 < (x1 - x1 / 100 * 100) →
      K (0 : Int32) (f_copy_cells)
    ) ∧ (¬ 1 < (x1 - x1 / 100 * 100) →
      ((¬ (x1 - x1 / 100 * 100) = 1 →
        xp_X4_succeeds_174 K f_copy_cells 0 ((x1 / 100) - (x1 / 100) / 100 * 100)
      ) ∧ ((x1 - x1 / 100 * 100) = 1 →
        xp_X4_succeeds_174 K f_copy_cells 1 ((x1 / 100) - (x1 / 100) / 100 * 100)
      ))
    ))
  ) ∧ (¬ (x1 / 10000) = 3 →
  (((x1 / 10000) = 4 →
    xp_X4_isSetup ((x1 / 100) - (x1 / 100) / 100 * 100) (x1 - x1 / 100 * 100) (fun r13 =>
      ((r13 = 0 →
        K (0 : Int32) (f_copy_cells)
      ) ∧ (¬ r13 = 0 →
        xp_X3_mean f_copy_cells ((x1 / 100) - (x1 / 100) / 100 * 100) (x1 - x1 / 100 * 100) (fun r15 u15 =>
          ((r15 = 0 →
            K (0 : Int32) (u15)
          ) ∧ (¬ r15 = 0 →
            K (1 : Int32) (u15)
          ))
        )
      ))
    )
  ) ∧ (¬ (x1 / 10000) = 4 →
  (((x1 / 10000) = 5 →
    ((¬ ((x1 / 100) - (x1 / 100) / 100 * 100) = 0 →
      K (0 : Int32) (f_copy_cells)
    ) ∧ (((x1 / 100) - (x1 / 100) / 100 * 100) = 0 →
      ((¬ (x1 - x1 / 100 * 100) = 0 →
        K (0 : Int32) (f_copy_cells)
      ) ∧ ((x1 - x1 / 100 * 100) = 0 →
        xp_X3_writeRight f_copy_cells (fun r20 u20 =>
          ((r20 = 0 →
            K (0 : Int32) (u20)
          ) ∧ (¬ r20 = 0 →
            K (1 : Int32) (u20)
          ))
        )
      ))
    ))
  ) ∧ (¬ (x1 / 10000) = 5 →
  (((x1 / 10000) = 6 →
    ((1 < (x1 - x1 / 100 * 100) →
      K (0 : Int32) (f_copy_cells)
    ) ∧ (¬ 1 < (x1 - x1 / 100 * 100) →
      xp_X3_hasTake f_copy_cells ((x1 / 100) - (x1 / 100) / 100 * 100) (fun r24 =>
        ((r24 = 0 →
          K (0 : Int32) (f_copy_cells)
        ) ∧ (¬ r24 = 0 →
          xp_X3_isRight f_copy_cells ((x1 / 100) - (x1 / 100) / 100 * 100) (fun r26 =>
            ((¬ (x1 - x1 / 100 * 100) = 1 →
              ((¬ r26 = 0 →
                K (0 : Int32) (f_copy_cells)
              ) ∧ (r26 = 0 →
                K (1 : Int32) (f_copy_cells)
              ))
            ) ∧ ((x1 - x1 / 100 * 100) = 1 →
              ((¬ r26 = 1 →
                K (0 : Int32) (f_copy_cells)
              ) ∧ (r26 = 1 →
                K (1 : Int32) (f_copy_cells)
              ))
            ))
          )
        ))
      )
    ))
  ) ∧ (¬ (x1 / 10000) = 6 →
  (((x1 / 10000) = 7 →
    ((¬ ((x1 / 100) - (x1 / 100) / 100 * 100) = 0 →
      K (0 : Int32) (f_copy_cells)
    ) ∧ (((x1 / 100) - (x1 / 100) / 100 * 100) = 0 →
      xp_X3_wrongSlates f_copy_cells (fun r32 =>
        (((x1 - x1 / 100 * 100) < r32 →
          K (0 : Int32) (f_copy_cells)
        ) ∧ (¬ (x1 - x1 / 100 * 100) < r32 →
          K (1 : Int32) (f_copy_cells)
        ))
      )
    ))
  ) ∧ (¬ (x1 / 10000) = 7 →
  (((x1 / 10000) = 8 →
    xp_X3_hasTake f_copy_cells ((x1 / 100) - (x1 / 100) / 100 * 100) (fun r35 =>
      ((r35 = 0 →
        K (0 : Int32) (f_copy_cells)
      ) ∧ (¬ r35 = 0 →
        xp_X3_hasTake f_copy_cells (x1 - x1 / 100 * 100) (fun r37 =>
          ((r37 = 0 →
            K (0 : Int32) (f_copy_cells)
          ) ∧ (¬ r37 = 0 →
            xp_X3_soundFor f_copy_cells ((x1 / 100) - (x1 / 100) / 100 * 100) 0 (fun r39 =>
              ((¬ r39 = (x1 - x1 / 100 * 100) →
                K (0 : Int32) (f_copy_cells)
              ) ∧ (r39 = (x1 - x1 / 100 * 100) →
                K (1 : Int32) (f_copy_cells)
              ))
            )
          ))
        )
      ))
    )
  ) ∧ (¬ (x1 / 10000) = 8 →
  (((x1 / 10000) = 9 →
    ((¬ ((x1 / 1000) - (x1 / 1000) / 10 * 10) = 0 →
      K (0 : Int32) (f_copy_cells)
    ) ∧ (((x1 / 1000) - (x1 / 1000) / 10 * 10) = 0 →
      xp_X3_cameraLeft f_copy_cells (fun r43 =>
        ((r43 < (x1 - x1 / 1000 * 1000) →
          K (0 : Int32) (f_copy_cells)
        ) ∧ (¬ r43 < (x1 - x1 / 1000 * 1000) →
          K (1 : Int32) (f_copy_cells)
        ))
      )
    ))
  ) ∧ (¬ (x1 / 10000) = 9 →
    K (0 : Int32) (f_copy_cells)
  ))))))))))))))))))
def xp_X4_doTurn_239   (K : ((Nat → Int32)) → Prop)  (f_copy_cells : Nat → Int32) (t0 : Int32) (t1 : Int32) : Prop :=
  xp_X3_tryToFilm f_copy_cells t1 t0 (fun r1 u1 =>
    K (u1)
  )
def xp_X4_doTurn   (f_copy_cells : Nat → Int32) (x1 : Int32) (K : ((Nat → Int32)) → Prop) : Prop :=
  (((x1 - x1 / 16 * 16) = 0 →
    xp_X3_mean f_copy_cells (1 + ((x1 / 16) - (x1 / 16) / 4 * 4)) ((x1 / 64) - (x1 / 64) / 3 * 3) (fun r3 u3 =>
      K (u3)
    )
  ) ∧ (¬ (x1 - x1 / 16 * 16) = 0 →
  (((x1 - x1 / 16 * 16) = 1 →
    xp_X3_writeRight f_copy_cells (fun r5 u5 =>
      K (u5)
    )
  ) ∧ (¬ (x1 - x1 / 16 * 16) = 1 →
  (((x1 - x1 / 16 * 16) = 2 →
    xp_X3_write f_copy_cells (1 + ((x1 / 16) - (x1 / 16) / 4 * 4)) ((x1 / 64) - (x1 / 64) / 3 * 3) (1 + ((x1 / 256) - (x1 / 256) / 5 * 5)) (fun u7 =>
      K (u7)
    )
  ) ∧ (¬ (x1 - x1 / 16 * 16) = 2 →
  (((x1 - x1 / 16 * 16) = 3 →
    xp_X3_loadCamera f_copy_cells (fun r9 u9 =>
      K (u9)
    )
  ) ∧ (¬ (x1 - x1 / 16 * 16) = 3 →
  (((x1 - x1 / 16 * 16) = 4 →
    xp_X3_loadSound f_copy_cells (fun r11 u11 =>
      K (u11)
    )
  ) ∧ (¬ (x1 - x1 / 16 * 16) = 4 →
  (((x1 - x1 / 16 * 16) = 5 →
    xp_X3_mark f_copy_cells ((x1 / 16) - (x1 / 16) / 24 * 24) 15 1 (fun r13 u13 =>
      K (u13)
    )
  ) ∧ (¬ (x1 - x1 / 16 * 16) = 5 →
  (((x1 - x1 / 16 * 16) = 6 →
    xp_X3_mark f_copy_cells ((x1 / 16) - (x1 / 16) / 24 * 24) 14 1 (fun r15 u15 =>
      K (u15)
    )
  ) ∧ (¬ (x1 - x1 / 16 * 16) = 6 →
  (((x1 - x1 / 16 * 16) = 7 →
    xp_X3_setOff f_copy_cells (((x1 / 16) - (x1 / 16) / 199 * 199) - 99) (fun r17 u17 =>
      K (u17)
    )
  ) ∧ (¬ (x1 - x1 / 16 * 16) = 7 →
  (((x1 - x1 / 16 * 16) = 8 →
    xp_X3_putRight f_copy_cells ((x1 / 16) - (x1 / 16) / 24 * 24) (fun r19 u19 =>
      K (u19)
    )
  ) ∧ (¬ (x1 - x1 / 16 * 16) = 8 →
    ((¬ ((x1 / 16) - (x1 / 16) / 2 * 2) = 0 →
      xp_X4_doTurn_239 K f_copy_cells 0 (1 + ((x1 / 32) - (x1 / 32) / 120 * 120))
    ) ∧ (((x1 / 16) - (x1 / 16) / 2 * 2) = 0 →
      xp_X4_doTurn_239 K f_copy_cells 1 (1 + ((x1 / 32) - (x1 / 32) / 120 * 120))
    ))
  ))))))))))))))))))
def xp_X5_thrown  (f_refusal : Int32)   (K : Int32 → Prop) : Prop :=
  K f_refusal
def xp_X5_refused   (f_refusal : Int32) (x1 : Int32) (K : Int32 → Int32 → Prop) : Prop :=
  ((x1 ≤ 0 →
    K (0 : Int32) (x1)
  ) ∧ (¬ x1 ≤ 0 →
    K (1 : Int32) (x1)
  ))
def xp_X5_in    (x1 : Int64) (x2 : Int64) (x3 : Int64) (K : Int32 → Prop) : Prop :=
  (((lg_cmp x1 x2) < 0 →
    K (0 : Int32)
  ) ∧ (¬ (lg_cmp x1 x2) < 0 →
    ((0 < (lg_cmp x1 x3) →
      K (0 : Int32)
    ) ∧ (¬ 0 < (lg_cmp x1 x3) →
      K (1 : Int32)
    ))
  ))
def xp_X5_copyState_3 (n1 : Nat) (n3 : Nat) (f_p1 : Nat → Int32) (K : ((Nat → Int32)) → Prop)  : Nat → (Nat → Int32) → Int32 → Int32 → Int32 → Prop
  | 0, _, _, _, _ => False
  | n + 1, f_p3, v1, v3, v4 =>
    ((377 ≤ v4 →
      K (f_p3)
    ) ∧ (¬ 377 ≤ v4 →
      (vp_in (v1 + v4) n1) ∧
      (vp_in (v3 + v4) n3) ∧
      xp_X5_copyState_3 n1 n3 f_p1 K n (upd f_p3 ((v3 + v4).toNatClampNeg) (f_p1 (v1 + v4).toNatClampNeg)) v1 v3 (v4 + 1)
    ))
def xp_X5_copyState (n1 : Nat) (n3 : Nat) (f_p1 : Nat → Int32) (f_p3 : Nat → Int32) (x2 : Int32) (x4 : Int32) (K : ((Nat → Int32)) → Prop) : Prop :=
  ∃ n9, xp_X5_copyState_3 n1 n3 f_p1 K n9 f_p3 x2 x4 0
def xp_X5_begin_2   (K : ((Nat → Int32)) → Prop)  : Nat → (Nat → Int32) → Int32 → Prop
  | 0, _, _ => False
  | n + 1, f_p1, v1 =>
    ((377 ≤ v1 →
      K (upd (upd (upd (upd (upd (upd (upd (upd (upd f_p1 1 1) 3 1) 5 1) 6 1) 8 1) 13 300) 14 900) 15 10) 16 1)
    ) ∧ (¬ 377 ≤ v1 →
      (vp_in v1 377) ∧
      xp_X5_begin_2 K n (upd f_p1 v1.toNatClampNeg 0) (v1 + 1)
    ))
def xp_X5_begin   (f_p1 : Nat → Int32)  (K : ((Nat → Int32)) → Prop) : Prop :=
  ∃ n9, xp_X5_begin_2 K n9 f_p1 0
def xp_X5_isTake  (f_p1 : Nat → Int32)  (x2 : Int32) (K : Int32 → Prop) : Prop :=
  xp_X5_in x2.toInt64 0 (((f_p1 0) - 1).toInt64) (fun r1 =>
    (narrow .boolean (.int r1) = .int r1) ∧
    K r1
  )
def xp_X5_isSetup    (x1 : Int32) (x2 : Int32) (K : Int32 → Prop) : Prop :=
  xp_X5_in x1.toInt64 1 99 (fun r1 =>
    ((r1 = 0 →
      K (0 : Int32)
    ) ∧ (¬ r1 = 0 →
      xp_X5_in x2.toInt64 0 25 (fun r3 =>
        ((r3 = 0 →
          K (0 : Int32)
        ) ∧ (¬ r3 = 0 →
          K (1 : Int32)
        ))
      )
    ))
  )
def xp_X5_of  (f_p1 : Nat → Int32)  (x2 : Int32) (x3 : Int32) (K : Int32 → Prop) : Prop :=
  (vp_in ((17 + (15 * x2)) + x3) 377) ∧
  K (f_p1 ((17 + (15 * x2)) + x3).toNatClampNeg)
def xp_X5_lay   (f_p1 : Nat → Int32) (x2 : Int32) (x3 : Int32) (x4 : Int32) (K : ((Nat → Int32)) → Prop) : Prop :=
  (vp_in ((17 + (15 * x2)) + x3) 377) ∧
  K (upd f_p1 (((17 + (15 * x2)) + x3).toNatClampNeg) x4)
def xp_X5_number_6  (f_p1 : Nat → Int32) (K : Int32 → Prop)  : Nat → Int32 → Int32 → Int32 → Int32 → Int32 → Prop
  | 0, _, _, _, _, _ => False
  | n + 1, v1, v2, v3, v4, v5 =>
    ((v1 ≤ v5 →
      K v4
    ) ∧ (¬ v1 ≤ v5 →
      xp_X5_of f_p1 v5 0 (fun r2 =>
        ((¬ r2 = v2 →
          xp_X5_number_6 f_p1 K n v1 v2 v3 (v4 + 0) (v5 + 1)
        ) ∧ (r2 = v2 →
          xp_X5_of f_p1 v5 1 (fun r4 =>
            ((¬ r4 = v3 →
              xp_X5_number_6 f_p1 K n v1 v2 v3 (v4 + 0) (v5 + 1)
            ) ∧ (r4 = v3 →
              xp_X5_of f_p1 v5 14 (fun r6 =>
                ((¬ r6 = 0 →
                  xp_X5_number_6 f_p1 K n v1 v2 v3 (v4 + 0) (v5 + 1)
                ) ∧ (r6 = 0 →
                  xp_X5_number_6 f_p1 K n v1 v2 v3 (v4 + 1) (v5 + 1)
                ))
              )
            ))
          )
        ))
      )
    ))
def xp_X5_number  (f_p1 : Nat → Int32)  (x2 : Int32) (x3 : Int32) (x4 : Int32) (K : Int32 → Prop) : Prop :=
  ∃ n9, xp_X5_number_6 f_p1 K n9 x2 x3 x4 1 0
def xp_X5_numberOf  (f_p1 : Nat → Int32)  (x2 : Int32) (K : Int32 → Prop) : Prop :=
  xp_X5_of f_p1 x2 0 (fun r1 =>
    xp_X5_of f_p1 x2 1 (fun r2 =>
      xp_X5_number f_p1 x2 r1 r2 (fun r3 =>
        K r3
      )
    )
  )
def xp_X5_next  (f_p1 : Nat → Int32)   (K : Int32 → Prop) : Prop :=
  xp_X5_number f_p1 (f_p1 0) (f_p1 1) (f_p1 2) (fun r1 =>
    K r1
  )
def xp_X5_isRight  (f_p1 : Nat → Int32)  (x2 : Int32) (K : Int32 → Prop) : Prop :=
  xp_X5_of f_p1 x2 2 (fun r1 =>
    xp_X5_of f_p1 x2 0 (fun r2 =>
      ((¬ r1 = r2 →
        K (0 : Int32)
      ) ∧ (r1 = r2 →
        xp_X5_of f_p1 x2 3 (fun r4 =>
          xp_X5_of f_p1 x2 1 (fun r5 =>
            ((¬ r4 = r5 →
              K (0 : Int32)
            ) ∧ (r4 = r5 →
              xp_X5_of f_p1 x2 4 (fun r7 =>
                xp_X5_numberOf f_p1 x2 (fun r8 =>
                  ((¬ r7 = r8 →
                    K (0 : Int32)
                  ) ∧ (r7 = r8 →
                    K (1 : Int32)
                  ))
                )
              )
            ))
          )
        )
      ))
    )
  )
def xp_X5_wrong_4  (f_p1 : Nat → Int32) (K : Int32 → Prop)  : Nat → Int32 → Int32 → Prop
  | 0, _, _ => False
  | n + 1, v1, v2 =>
    (((f_p1 0) ≤ v2 →
      K v1
    ) ∧ (¬ (f_p1 0) ≤ v2 →
      xp_X5_isRight f_p1 v2 (fun r2 =>
        ((r2 = 0 →
          xp_X5_wrong_4 f_p1 K n (v1 + 1) (v2 + 1)
        ) ∧ (¬ r2 = 0 →
          xp_X5_wrong_4 f_p1 K n (v1 + 0) (v2 + 1)
        ))
      )
    ))
def xp_X5_wrong  (f_p1 : Nat → Int32)   (K : Int32 → Prop) : Prop :=
  ∃ n9, xp_X5_wrong_4 f_p1 K n9 0 0
def xp_X5_sum_4  (f_p1 : Nat → Int32) (K : Int32 → Prop)  : Nat → Int32 → Int32 → Int32 → Prop
  | 0, _, _, _ => False
  | n + 1, v1, v2, v3 =>
    (((f_p1 0) ≤ v3 →
      K v2
    ) ∧ (¬ (f_p1 0) ≤ v3 →
      xp_X5_of f_p1 v3 v1 (fun r2 =>
        xp_X5_sum_4 f_p1 K n v1 (v2 + r2) (v3 + 1)
      )
    ))
def xp_X5_sum  (f_p1 : Nat → Int32)  (x2 : Int32) (K : Int32 → Prop) : Prop :=
  ∃ n9, xp_X5_sum_4 f_p1 K n9 x2 0 0
def xp_X5_left  (f_p1 : Nat → Int32)   (K : Int32 → Prop) : Prop :=
  ((0 ≤ ((f_p1 13) - (f_p1 7)) →
    K ((f_p1 13) - (f_p1 7))
  ) ∧ (¬ 0 ≤ ((f_p1 13) - (f_p1 7)) →
    K (0 : Int32)
  ))
def xp_X5_canShoot  (f_p1 : Nat → Int32)   (K : Int32 → Prop) : Prop :=
  ((24 ≤ (f_p1 0) →
    K (0 : Int32)
  ) ∧ (¬ 24 ≤ (f_p1 0) →
    xp_X5_left f_p1 (fun r2 =>
      ((r2 ≤ 0 →
        K (0 : Int32)
      ) ∧ (¬ r2 ≤ 0 →
        K (1 : Int32)
      ))
    )
  ))
def xp_X5_shootOn_313   (K : Int32 → ((Nat → Int32)) → Prop)  (f_p1 : Nat → Int32) (v4 : Int32) (t0 : Int32) (t1 : Int32) : Prop :=
  K v4 (upd (upd f_p1 5 (t1 + t0)) 0 ((f_p1 0) + 1))
def xp_X5_shootOn_272   (K : Int32 → ((Nat → Int32)) → Prop)  (f_p1 : Nat → Int32) (v4 : Int32) (t0 : Int32) (t1 : Int32) : Prop :=
  ((¬ (f_p1 16) = 1 →
    xp_X5_shootOn_313 K (upd (upd f_p1 12 (t1 + t0)) 10 ((f_p1 10) + (v4 + (f_p1 15)))) v4 0 (f_p1 5)
  ) ∧ ((f_p1 16) = 1 →
    ((99 ≤ (f_p1 5) →
      xp_X5_shootOn_313 K (upd (upd f_p1 12 (t1 + t0)) 10 ((f_p1 10) + (v4 + (f_p1 15)))) v4 0 (f_p1 5)
    ) ∧ (¬ 99 ≤ (f_p1 5) →
      xp_X5_shootOn_313 K (upd (upd f_p1 12 (t1 + t0)) 10 ((f_p1 10) + (v4 + (f_p1 15)))) v4 1 (f_p1 5)
    ))
  ))
def xp_X5_shootOn_255   (K : Int32 → ((Nat → Int32)) → Prop)  (f_p1 : Nat → Int32) (v4 : Int32) (v5 : Int32) (t0 : Int32) (t1 : Int32) : Prop :=
  ((v5 = 0 →
    xp_X5_shootOn_272 K (upd f_p1 9 (t1 + t0)) v4 0 (f_p1 12)
  ) ∧ (¬ v5 = 0 →
    xp_X5_shootOn_272 K (upd f_p1 9 (t1 + t0)) v4 1 (f_p1 12)
  ))
def xp_X5_shootOn_184   (K : Int32 → ((Nat → Int32)) → Prop)  (f_p1 : Nat → Int32) (v3 : Int32) (v4 : Int32) (v5 : Int32) (t0 : Int32) (t2 : Int32) : Prop :=
  xp_X5_lay f_p1 t2 10 t0 (fun u1 =>
    xp_X5_lay u1 v3 11 (u1 10) (fun u2 =>
      xp_X5_lay u2 v3 12 ((u2 10) + (u2 11)) (fun u3 =>
        xp_X5_lay u3 v3 13 0 (fun u4 =>
          xp_X5_lay u4 v3 14 0 (fun u5 =>
            ((v5 = 0 →
              xp_X5_shootOn_255 K (upd u5 7 ((u5 7) + v4)) v4 v5 0 (u5 9)
            ) ∧ (¬ v5 = 0 →
              xp_X5_shootOn_255 K (upd u5 7 ((u5 7) + v4)) v4 v5 v4 (u5 9)
            ))
          )
        )
      )
    )
  )
def xp_X5_shootOn_162   (K : Int32 → ((Nat → Int32)) → Prop)  (f_p1 : Nat → Int32) (v3 : Int32) (v4 : Int32) (v5 : Int32) (t0 : Int32) (t2 : Int32) : Prop :=
  xp_X5_lay f_p1 t2 9 t0 (fun u1 =>
    ((v5 = 0 →
      xp_X5_shootOn_184 K u1 v3 v4 v5 (-1 : Int32) v3
    ) ∧ (¬ v5 = 0 →
      xp_X5_shootOn_184 K u1 v3 v4 v5 ((u1 12) + 1) v3
    ))
  )
def xp_X5_shootOn_142   (K : Int32 → ((Nat → Int32)) → Prop)  (f_p1 : Nat → Int32) (v3 : Int32) (v4 : Int32) (v5 : Int32) (t0 : Int32) (t2 : Int32) : Prop :=
  xp_X5_lay f_p1 t2 8 t0 (fun u1 =>
    ((v5 = 0 →
      xp_X5_shootOn_162 K u1 v3 v4 v5 (-1 : Int32) v3
    ) ∧ (¬ v5 = 0 →
      xp_X5_shootOn_162 K u1 v3 v4 v5 (u1 9) v3
    ))
  )
def xp_X5_shootOn_68   (K : Int32 → ((Nat → Int32)) → Prop)  : Nat → (Nat → Int32) → Int32 → Int32 → Int32 → Int32 → Prop
  | 0, _, _, _, _, _ => False
  | n + 1, f_p1, v3, v4, v5, v6 =>
    ((3 ≤ v6 →
      xp_X5_lay f_p1 v3 5 (f_p1 6) (fun u2 =>
        xp_X5_lay u2 v3 6 (u2 7) (fun u3 =>
          xp_X5_lay u3 v3 7 v4 (fun u4 =>
            ((v5 = 0 →
              xp_X5_shootOn_142 K u4 v3 v4 v5 (-1 : Int32) v3
            ) ∧ (¬ v5 = 0 →
              xp_X5_shootOn_142 K u4 v3 v4 v5 (u4 8) v3
            ))
          )
        )
      )
    ) ∧ (¬ 3 ≤ v6 →
      (vp_in (3 + v6) 377) ∧
      xp_X5_lay f_p1 v3 (2 + v6) (f_p1 (3 + v6).toNatClampNeg) (fun u6 =>
        xp_X5_shootOn_68 K n u6 v3 v4 v5 (v6 + 1)
      )
    ))
def xp_X5_shootOn_45   (K : Int32 → ((Nat → Int32)) → Prop)  (f_p1 : Nat → Int32) (v3 : Int32) (v4 : Int32) (t0 : Int32) : Prop :=
  xp_X5_lay f_p1 v3 0 (f_p1 1) (fun u1 =>
    xp_X5_lay u1 v3 1 (u1 2) (fun u2 =>
      ∃ n9, xp_X5_shootOn_68 K n9 u2 v3 v4 t0 0
    )
  )
def xp_X5_shootOn_20   (K : Int32 → ((Nat → Int32)) → Prop)  (f_p1 : Nat → Int32) (v2 : Int32) (v3 : Int32) (t0 : Int32) : Prop :=
  ((v2 = 0 →
    xp_X5_shootOn_45 K f_p1 v3 t0 0
  ) ∧ (¬ v2 = 0 →
    ((((f_p1 14) - (f_p1 9)) < t0 →
      xp_X5_shootOn_45 K f_p1 v3 t0 0
    ) ∧ (¬ ((f_p1 14) - (f_p1 9)) < t0 →
      xp_X5_shootOn_45 K f_p1 v3 t0 1
    ))
  ))
def xp_X5_shootOn   (f_p1 : Nat → Int32) (x2 : Int32) (x3 : Int32) (K : Int32 → ((Nat → Int32)) → Prop) : Prop :=
  xp_X5_left f_p1 (fun r1 =>
    ((r1 ≤ x2 →
      xp_X5_left f_p1 (fun r3 =>
        xp_X5_shootOn_20 K f_p1 x3 (f_p1 0) r3
      )
    ) ∧ (¬ r1 ≤ x2 →
      xp_X5_shootOn_20 K f_p1 x3 (f_p1 0) x2
    ))
  )
def xp_X5_newCameraOn   (f_p1 : Nat → Int32)  (K : Int32 → ((Nat → Int32)) → Prop) : Prop :=
  K ((f_p1 6) + 1) (upd (upd f_p1 6 ((f_p1 6) + 1)) 7 0)
def xp_X5_newSoundOn   (f_p1 : Nat → Int32)  (K : Int32 → ((Nat → Int32)) → Prop) : Prop :=
  K ((f_p1 8) + 1) (upd (upd (upd f_p1 8 ((f_p1 8) + 1)) 9 0) 12 0)
def xp_X5_callOn   (f_p1 : Nat → Int32) (x2 : Int32) (x3 : Int32) (K : Int32 → ((Nat → Int32)) → Prop) : Prop :=
  xp_X5_next (upd (upd f_p1 1 x2) 2 x3) (fun r1 =>
    K r1 (upd (upd f_p1 1 x2) 2 x3)
  )
def xp_X5_boardOn   (f_p1 : Nat → Int32) (x2 : Int32) (x3 : Int32) (x4 : Int32) (K : Int32 → ((Nat → Int32)) → Prop) : Prop :=
  ((¬ x2 = (f_p1 1) →
    K (0 : Int32) (upd (upd (upd f_p1 3 x2) 4 x3) 5 x4)
  ) ∧ (x2 = (f_p1 1) →
    ((¬ x3 = (f_p1 2) →
      K (0 : Int32) (upd (upd (upd f_p1 3 x2) 4 x3) 5 x4)
    ) ∧ (x3 = (f_p1 2) →
      xp_X5_next (upd (upd (upd f_p1 3 x2) 4 x3) 5 x4) (fun r3 =>
        ((¬ x4 = r3 →
          K (0 : Int32) (upd (upd (upd f_p1 3 x2) 4 x3) 5 x4)
        ) ∧ (x4 = r3 →
          K (1 : Int32) (upd (upd (upd f_p1 3 x2) 4 x3) 5 x4)
        ))
      )
    ))
  ))
def xp_X5_rightOn   (f_p1 : Nat → Int32)  (K : Int32 → ((Nat → Int32)) → Prop) : Prop :=
  xp_X5_next f_p1 (fun r1 =>
    xp_X5_boardOn f_p1 (f_p1 1) (f_p1 2) r1 (fun r2 u2 =>
      K (u2 5) (u2)
    )
  )
def xp_X5_markOn_12   (K : Int32 → ((Nat → Int32)) → Prop)  (f_p1 : Nat → Int32) (v2 : Int32) (t0 : Int32) (t1 : Int32) (t2 : Int32) : Prop :=
  xp_X5_lay f_p1 t2 t1 t0 (fun u1 =>
    ((¬ v2 = 13 →
      xp_X5_wrong u1 (fun r3 =>
        K r3 (u1)
      )
    ) ∧ (v2 = 13 →
      xp_X5_sum u1 13 (fun r4 =>
        K r4 (u1)
      )
    ))
  )
def xp_X5_markOn   (f_p1 : Nat → Int32) (x2 : Int32) (x3 : Int32) (x4 : Int32) (K : Int32 → ((Nat → Int32)) → Prop) : Prop :=
  ((x4 = 0 →
    xp_X5_markOn_12 K f_p1 x3 0 x3 x2
  ) ∧ (¬ x4 = 0 →
    xp_X5_markOn_12 K f_p1 x3 1 x3 x2
  ))
def xp_X5_fixOn_13   (K : Int32 → ((Nat → Int32)) → Prop)  (f_p1 : Nat → Int32) (v1 : Int32) (t0 : Int32) : Prop :=
  xp_X5_of f_p1 v1 0 (fun r1 =>
    xp_X5_lay f_p1 v1 2 r1 (fun u2 =>
      xp_X5_of u2 v1 1 (fun r3 =>
        xp_X5_lay u2 v1 3 r3 (fun u4 =>
          xp_X5_numberOf u4 v1 (fun r5 =>
            xp_X5_lay u4 v1 4 r5 (fun u6 =>
              K t0 (u6)
            )
          )
        )
      )
    )
  )
def xp_X5_fixOn   (f_p1 : Nat → Int32) (x2 : Int32) (K : Int32 → ((Nat → Int32)) → Prop) : Prop :=
  xp_X5_isRight f_p1 x2 (fun r1 =>
    ((r1 = 0 →
      xp_X5_fixOn_13 K f_p1 x2 1
    ) ∧ (¬ r1 = 0 →
      xp_X5_fixOn_13 K f_p1 x2 0
    ))
  )
def xp_X5_isSetting_59   (K : Int32 → Prop)  (t0 : Int64) (t1 : Int64) (t2 : Int64) : Prop :=
  xp_X5_in t2 t1 t0 (fun r1 =>
    ((r1 = 0 →
      K (0 : Int32)
    ) ∧ (¬ r1 = 0 →
      K (1 : Int32)
    ))
  )
def xp_X5_isSetting_26   (K : Int32 → Prop)  (v0 : Int32) (t0 : Int64) (t1 : Int64) : Prop :=
  ((¬ v0 = 0 →
    ((¬ v0 = 1 →
      ((¬ v0 = 2 →
        xp_X5_isSetting_59 K 1 t0 t1
      ) ∧ (v0 = 2 →
        xp_X5_isSetting_59 K 60 t0 t1
      ))
    ) ∧ (v0 = 1 →
      xp_X5_isSetting_59 K 3600 t0 t1
    ))
  ) ∧ (v0 = 0 →
    xp_X5_isSetting_59 K 999 t0 t1
  ))
def xp_X5_isSetting    (x1 : Int32) (x2 : Int32) (K : Int32 → Prop) : Prop :=
  xp_X5_in x1.toInt64 0 3 (fun r1 =>
    ((r1 = 0 →
      K (0 : Int32)
    ) ∧ (¬ r1 = 0 →
      ((2 ≤ x1 →
        xp_X5_isSetting_26 K x1 0 x2.toInt64
      ) ∧ (¬ 2 ≤ x1 →
        xp_X5_isSetting_26 K x1 60 x2.toInt64
      ))
    ))
  )
def xp_X5_overlap_74  (f_p1 : Nat → Int32) (K : Int32 → Prop)  (v8 : Int32) (t0 : Int32) : Prop :=
  ((t0 ≤ v8 →
    K (0 : Int32)
  ) ∧ (¬ t0 ≤ v8 →
    K (t0 - v8)
  ))
def xp_X5_overlap_58  (f_p1 : Nat → Int32) (K : Int32 → Prop)  (v5 : Int32) (v7 : Int32) (t0 : Int32) : Prop :=
  ((v7 ≤ v5 →
    xp_X5_overlap_74 f_p1 K t0 v7
  ) ∧ (¬ v7 ≤ v5 →
    xp_X5_overlap_74 f_p1 K t0 v5
  ))
def xp_X5_overlap  (f_p1 : Nat → Int32)  (x2 : Int32) (x3 : Int32) (x4 : Int32) (K : Int32 → Prop) : Prop :=
  xp_X5_of f_p1 x2 11 (fun r1 =>
    xp_X5_of f_p1 x2 7 (fun r2 =>
      xp_X5_of f_p1 x3 12 (fun r3 =>
        xp_X5_of f_p1 x3 7 (fun r4 =>
          ((r1 ≤ (r3 + x4) →
            xp_X5_overlap_58 f_p1 K (r1 + r2) ((r3 + x4) + r4) (r3 + x4)
          ) ∧ (¬ r1 ≤ (r3 + x4) →
            xp_X5_overlap_58 f_p1 K (r1 + r2) ((r3 + x4) + r4) r1
          ))
        )
      )
    )
  )
def xp_X5_syncedBy_55  (f_p1 : Nat → Int32) (K : Int32 → Prop) (X8 : Int32 → Int32 → Int32 → Int32 → Int32 → Prop) (v1 : Int32) (v2 : Int32) (v4 : Int32) (v5 : Int32) (v6 : Int32) (t0 : Int32) : Prop :=
  ((v6 ≤ v4 →
    X8 v1 v2 t0 v4 (v5 + 1)
  ) ∧ (¬ v6 ≤ v4 →
    X8 v1 v2 t0 v6 (v5 + 1)
  ))
def xp_X5_syncedBy_40  (f_p1 : Nat → Int32) (K : Int32 → Prop) (X8 : Int32 → Int32 → Int32 → Int32 → Int32 → Prop) (v1 : Int32) (v2 : Int32) (v3 : Int32) (v4 : Int32) (v5 : Int32) (t0 : Int32) : Prop :=
  ((t0 ≤ v4 →
    xp_X5_syncedBy_55 f_p1 K X8 v1 v2 v4 v5 t0 v3
  ) ∧ (¬ t0 ≤ v4 →
    xp_X5_syncedBy_55 f_p1 K X8 v1 v2 v4 v5 t0 v5
  ))
def xp_X5_syncedBy_8  (f_p1 : Nat → Int32) (K : Int32 → Prop)  : Nat → Int32 → Int32 → Int32 → Int32 → Int32 → Prop
  | 0, _, _, _, _, _ => False
  | n + 1, v1, v2, v3, v4, v5 =>
    (((f_p1 0) ≤ v5 →
      K v3
    ) ∧ (¬ (f_p1 0) ≤ v5 →
      xp_X5_of f_p1 v5 8 (fun r2 =>
        ((¬ r2 = (-1 : Int32) →
          xp_X5_overlap f_p1 v1 v5 v2 (fun r4 =>
            xp_X5_syncedBy_40 f_p1 K (fun v1 v2 v3 v4 v5 => xp_X5_syncedBy_8 f_p1 K n v1 v2 v3 v4 v5) v1 v2 v3 v4 v5 r4
          )
        ) ∧ (r2 = (-1 : Int32) →
          xp_X5_syncedBy_40 f_p1 K (fun v1 v2 v3 v4 v5 => xp_X5_syncedBy_8 f_p1 K n v1 v2 v3 v4 v5) v1 v2 v3 v4 v5 0
        ))
      )
    ))
def xp_X5_syncedBy  (f_p1 : Nat → Int32)  (x2 : Int32) (x3 : Int32) (K : Int32 → Prop) : Prop :=
  ∃ n9, xp_X5_syncedBy_8 f_p1 K n9 x2 x3 (-1 : Int32) 0 0
def xp_X5_astray_34  (f_p1 : Nat → Int32) (K : Int32 → Prop) (X4 : Int32 → Int32 → Prop) (v2 : Int32) (t0 : Int32) (t1 : Int32) (t2 : Int32) : Prop :=
  ((¬ t1 = t0 →
    X4 (t2 + 1) (v2 + 1)
  ) ∧ (t1 = t0 →
    X4 (t2 + 0) (v2 + 1)
  ))
def xp_X5_astray_4  (f_p1 : Nat → Int32) (K : Int32 → Prop)  : Nat → Int32 → Int32 → Prop
  | 0, _, _ => False
  | n + 1, v1, v2 =>
    (((f_p1 0) ≤ v2 →
      K v1
    ) ∧ (¬ (f_p1 0) ≤ v2 →
      xp_X5_syncedBy f_p1 v2 0 (fun r2 =>
        xp_X5_of f_p1 v2 8 (fun r3 =>
          ((¬ r3 = (-1 : Int32) →
            xp_X5_astray_34 f_p1 K (fun v1 v2 => xp_X5_astray_4 f_p1 K n v1 v2) v2 v2 r2 v1
          ) ∧ (r3 = (-1 : Int32) →
            xp_X5_astray_34 f_p1 K (fun v1 v2 => xp_X5_astray_4 f_p1 K n v1 v2) v2 (-1 : Int32) r2 v1
          ))
        )
      )
    ))
def xp_X5_astray  (f_p1 : Nat → Int32)   (K : Int32 → Prop) : Prop :=
  ∃ n9, xp_X5_astray_4 f_p1 K n9 0 0
def xp_X5_append_31   (K : Int32 → (Int32 × (Nat → Int32) × Int32) → Prop)  (f_refusal : Int32) (f_text : Nat → Int32) (f_size : Int32) (v1 : Int32) (t0 : Int32) : Prop :=
  xp_X5_refused f_refusal t0 (fun r1 u1 =>
    ((r1 = 0 →
      (vp_in f_size 120) ∧
      K (f_size + 1) (u1, upd f_text f_size.toNatClampNeg v1, f_size + 1)
    ) ∧ (¬ r1 = 0 →
      K (0 : Int32) (u1, f_text, f_size)
    ))
  )
def xp_X5_append   (f_refusal : Int32) (f_text : Nat → Int32) (f_size : Int32) (x1 : Int32) (K : Int32 → (Int32 × (Nat → Int32) × Int32) → Prop) : Prop :=
  xp_X5_in x1.toInt64 0 255 (fun r1 =>
    ((¬ r1 = 0 →
      ((¬ f_size = 120 →
        xp_X5_append_31 K f_refusal f_text f_size x1 0
      ) ∧ (f_size = 120 →
        xp_X5_append_31 K f_refusal f_text f_size x1 2
      ))
    ) ∧ (r1 = 0 →
      xp_X5_append_31 K f_refusal f_text f_size x1 1
    ))
  )
def xp_X5_clearText   (f_refusal : Int32) (f_size : Int32)  (K : Int32 → (Int32 × Int32) → Prop) : Prop :=
  K f_size (0, 0)
def xp_X5_figures_54  (f_text : Nat → Int32) (f_size : Int32) (K : Int32 → Int32 → Prop) (X17 : Int32 → Int32 → Int32 → Int32 → Int32 → Int32 → Prop) (f_spot : Int32) (v1 : Int32) (v3 : Int32) (v4 : Int32) (v5 : Int32) (v6 : Int32) (t0 : Int32) : Prop :=
  xp_X5_in t0.toInt64 0 9 (fun r1 =>
    ((r1 = 0 →
      K (-1 : Int32) (f_spot)
    ) ∧ (¬ r1 = 0 →
      ((v4 < (v5 + (t0 * v6)) →
        K (-1 : Int32) (f_spot)
      ) ∧ (¬ v4 < (v5 + (t0 * v6)) →
        ((v3 ≤ (((v5 + (t0 * v6)) + v6) - 1) →
          X17 (f_spot + 1) v1 v3 v4 (v5 + (t0 * v6)) (v6 / 10)
        ) ∧ (¬ v3 ≤ (((v5 + (t0 * v6)) + v6) - 1) →
          K (-1 : Int32) (f_spot)
        ))
      ))
    ))
  )
def xp_X5_figures_123  (f_text : Nat → Int32) (f_size : Int32) (K : Int32 → Int32 → Prop)  (f_spot : Int32) (v1 : Int32) (v5 : Int32) : Prop :=
  ((¬ v1 = (-1 : Int32) →
    K v5 (f_spot)
  ) ∧ (v1 = (-1 : Int32) →
    K (-1 : Int32) (f_spot)
  ))
def xp_X5_figures_17  (f_text : Nat → Int32) (f_size : Int32) (K : Int32 → Int32 → Prop)  : Nat → Int32 → Int32 → Int32 → Int32 → Int32 → Int32 → Prop
  | 0, _, _, _, _, _, _ => False
  | n + 1, f_spot, v1, v3, v4, v5, v6 =>
    ((v6 ≤ 0 →
      xp_X5_figures_123 f_text f_size K f_spot v1 v5
    ) ∧ (¬ v6 ≤ 0 →
      ((v1 = (-1 : Int32) →
        xp_X5_figures_123 f_text f_size K f_spot v1 v5
      ) ∧ (¬ v1 = (-1 : Int32) →
        ((f_size ≤ f_spot →
          xp_X5_figures_54 f_text f_size K (fun f_spot v1 v3 v4 v5 v6 => xp_X5_figures_17 f_text f_size K n f_spot v1 v3 v4 v5 v6) f_spot v1 v3 v4 v5 v6 (-1 : Int32)
        ) ∧ (¬ f_size ≤ f_spot →
          (vp_in f_spot 120) ∧
          xp_X5_figures_54 f_text f_size K (fun f_spot v1 v3 v4 v5 v6 => xp_X5_figures_17 f_text f_size K n f_spot v1 v3 v4 v5 v6) f_spot v1 v3 v4 v5 v6 ((f_text f_spot.toNatClampNeg) - 48)
        ))
      ))
    ))
def xp_X5_figures  (f_text : Nat → Int32) (f_size : Int32) (f_spot : Int32) (x1 : Int32) (x2 : Int32) (x3 : Int32) (x4 : Int32) (K : Int32 → Int32 → Prop) : Prop :=
  ((¬ x2 = 3 →
    ∃ n9, xp_X5_figures_17 f_text f_size K n9 f_spot x1 x3 x4 0 10
  ) ∧ (x2 = 3 →
    ∃ n9, xp_X5_figures_17 f_text f_size K n9 f_spot x1 x3 x4 0 100
  ))
def xp_X5_letter_27  (f_text : Nat → Int32) (f_size : Int32) (K : Int32 → Int32 → Prop)  (f_spot : Int32) (v1 : Int32) (t0 : Int32) : Prop :=
  ((v1 = (-1 : Int32) →
    K (-1 : Int32) (f_spot)
  ) ∧ (¬ v1 = (-1 : Int32) →
    xp_X5_in t0.toInt64 0 25 (fun r2 =>
      ((¬ r2 = 0 →
        K t0 (f_spot + 1)
      ) ∧ (r2 = 0 →
        K (-1 : Int32) (f_spot)
      ))
    )
  ))
def xp_X5_letter  (f_text : Nat → Int32) (f_size : Int32) (f_spot : Int32) (x1 : Int32) (K : Int32 → Int32 → Prop) : Prop :=
  ((f_size ≤ f_spot →
    xp_X5_letter_27 f_text f_size K f_spot x1 (-1 : Int32)
  ) ∧ (¬ f_size ≤ f_spot →
    (vp_in f_spot 120) ∧
    xp_X5_letter_27 f_text f_size K f_spot x1 ((f_text f_spot.toNatClampNeg) - 65)
  ))
def xp_X5_done   (f_out : Int32) (x1 : Int32) (K : Int32 → Int32 → Prop) : Prop :=
  ((x1 = 0 →
    K (1 : Int32) (f_out + 1)
  ) ∧ (¬ x1 = 0 →
    K (1 : Int32) (f_out + 0)
  ))
def xp_X5_readCommand_159  (f_text : Nat → Int32) (f_size : Int32) (K : Int32 → (Int32 × Int32 × (Nat → Int32)) → Prop)  (f_spot : Int32) (f_out : Int32) (f_p1 : Nat → Int32) (t0 : Int32) : Prop :=
  xp_X5_done f_out t0 (fun r1 u1 =>
    ((r1 = 0 →
      K (0 : Int32) (f_spot, u1, f_p1)
    ) ∧ (¬ r1 = 0 →
      K (1 : Int32) (f_spot, u1, f_p1)
    ))
  )
def xp_X5_readCommand_224  (f_text : Nat → Int32) (f_size : Int32) (K : Int32 → (Int32 × Int32 × (Nat → Int32)) → Prop)  (f_spot : Int32) (f_out : Int32) (f_p1 : Nat → Int32) (t0 : Int32) : Prop :=
  xp_X5_done f_out t0 (fun r1 u1 =>
    ((r1 = 0 →
      K (0 : Int32) (f_spot, u1, f_p1)
    ) ∧ (¬ r1 = 0 →
      K (1 : Int32) (f_spot, u1, f_p1)
    ))
  )
def xp_X5_readCommand_300  (f_text : Nat → Int32) (f_size : Int32) (K : Int32 → (Int32 × Int32 × (Nat → Int32)) → Prop)  (f_spot : Int32) (f_out : Int32) (f_p1 : Nat → Int32) (t0 : Int32) : Prop :=
  xp_X5_done f_out t0 (fun r1 u1 =>
    ((r1 = 0 →
      K (0 : Int32) (f_spot, u1, f_p1)
    ) ∧ (¬ r1 = 0 →
      K (1 : Int32) (f_spot, u1, f_p1)
    ))
  )
def xp_X5_readCommand_289  (f_text : Nat → Int32) (f_size : Int32) (K : Int32 → (Int32 × Int32 × (Nat → Int32)) → Prop)  (f_spot : Int32) (f_out : Int32) (f_p1 : Nat → Int32) (t0 : Int32) (t1 : Int32) : Prop :=
  xp_X5_shootOn f_p1 t1 t0 (fun r1 u1 =>
    ((r1 ≤ 0 →
      xp_X5_readCommand_300 f_text f_size K f_spot f_out u1 0
    ) ∧ (¬ r1 ≤ 0 →
      xp_X5_readCommand_300 f_text f_size K f_spot f_out u1 1
    ))
  )
def xp_X5_readCommand_397  (f_text : Nat → Int32) (f_size : Int32) (K : Int32 → (Int32 × Int32 × (Nat → Int32)) → Prop)  (f_spot : Int32) (f_out : Int32) (f_p1 : Nat → Int32) (t0 : Int32) : Prop :=
  xp_X5_done f_out t0 (fun r1 u1 =>
    ((r1 = 0 →
      K (0 : Int32) (f_spot, u1, f_p1)
    ) ∧ (¬ r1 = 0 →
      K (1 : Int32) (f_spot, u1, f_p1)
    ))
  )
def xp_X5_readCommand_385  (f_text : Nat → Int32) (f_size : Int32) (K : Int32 → (Int32 × Int32 × (Nat → Int32)) → Prop)  (f_spot : Int32) (f_out : Int32) (f_p1 : Nat → Int32) (t0 : Int32) (t1 : Int32) : Prop :=
  xp_X5_markOn f_p1 t1 t0 1 (fun r1 u1 =>
    ((r1 < 0 →
      xp_X5_readCommand_397 f_text f_size K f_spot f_out u1 0
    ) ∧ (¬ r1 < 0 →
      xp_X5_readCommand_397 f_text f_size K f_spot f_out u1 1
    ))
  )
def xp_X5_readCommand_432  (f_text : Nat → Int32) (f_size : Int32) (K : Int32 → (Int32 × Int32 × (Nat → Int32)) → Prop)  (f_spot : Int32) (f_out : Int32) (f_p1 : Nat → Int32) (v3 : Int32) : Prop :=
  ((v3 = (-1 : Int32) →
    K (0 : Int32) (f_spot, f_out, f_p1)
  ) ∧ (¬ v3 = (-1 : Int32) →
    K (1 : Int32) (f_spot, f_out, f_p1)
  ))
def xp_X5_readCommand  (f_text : Nat → Int32) (f_size : Int32) (f_spot : Int32) (f_out : Int32) (f_p1 : Nat → Int32)  (K : Int32 → (Int32 × Int32 × (Nat → Int32)) → Prop) : Prop :=
  (vp_in f_spot 120) ∧
  (((f_text f_spot.toNatClampNeg) = 98 →
    xp_X5_figures f_text f_size (f_spot + 1) 0 2 1 99 (fun r3 u3 =>
      xp_X5_letter f_text f_size u3 r3 (fun r4 u4 =>
        xp_X5_figures f_text f_size u4 r4 2 1 99 (fun r5 u5 =>
          ((r5 = (-1 : Int32) →
            K (0 : Int32) (u5, f_out, f_p1)
          ) ∧ (¬ r5 = (-1 : Int32) →
            xp_X5_boardOn f_p1 r3 r4 r5 (fun r7 u7 =>
              ((r7 < 0 →
                xp_X5_readCommand_224 f_text f_size K u5 f_out u7 0
              ) ∧ (¬ r7 < 0 →
                xp_X5_readCommand_224 f_text f_size K u5 f_out u7 1
              ))
            )
          ))
        )
      )
    )
  ) ∧ (¬ (f_text f_spot.toNatClampNeg) = 98 →
  (((f_text f_spot.toNatClampNeg) = 99 →
    xp_X5_figures f_text f_size (f_spot + 1) 0 2 1 99 (fun r10 u10 =>
      xp_X5_letter f_text f_size u10 r10 (fun r11 u11 =>
        ((r11 = (-1 : Int32) →
          K (0 : Int32) (u11, f_out, f_p1)
        ) ∧ (¬ r11 = (-1 : Int32) →
          xp_X5_callOn f_p1 r10 r11 (fun r13 u13 =>
            ((r13 ≤ 0 →
              xp_X5_readCommand_159 f_text f_size K u11 f_out u13 0
            ) ∧ (¬ r13 ≤ 0 →
              xp_X5_readCommand_159 f_text f_size K u11 f_out u13 1
            ))
          )
        ))
      )
    )
  ) ∧ (¬ (f_text f_spot.toNatClampNeg) = 99 →
  (((f_text f_spot.toNatClampNeg) = 100 →
    K (0 : Int32) ((f_spot + 1) - 1, f_out, f_p1)
  ) ∧ (¬ (f_text f_spot.toNatClampNeg) = 100 →
  (((f_text f_spot.toNatClampNeg) = 101 →
    K (0 : Int32) ((f_spot + 1) - 1, f_out, f_p1)
  ) ∧ (¬ (f_text f_spot.toNatClampNeg) = 101 →
  (((f_text f_spot.toNatClampNeg) = 102 →
    xp_X5_figures f_text f_size (f_spot + 1) 0 2 0 23 (fun r18 u18 =>
      ((r18 = (-1 : Int32) →
        K (0 : Int32) (u18, f_out, f_p1)
      ) ∧ (¬ r18 = (-1 : Int32) →
        xp_X5_isTake f_p1 r18 (fun r20 =>
          ((r20 = 0 →
            xp_X5_readCommand_397 f_text f_size K u18 f_out f_p1 0
          ) ∧ (¬ r20 = 0 →
            ((¬ (f_text f_spot.toNatClampNeg) = 102 →
              xp_X5_readCommand_385 f_text f_size K u18 f_out f_p1 13 r18
            ) ∧ ((f_text f_spot.toNatClampNeg) = 102 →
              xp_X5_readCommand_385 f_text f_size K u18 f_out f_p1 14 r18
            ))
          ))
        )
      ))
    )
  ) ∧ (¬ (f_text f_spot.toNatClampNeg) = 102 →
  (((f_text f_spot.toNatClampNeg) = 103 →
    K (0 : Int32) ((f_spot + 1) - 1, f_out, f_p1)
  ) ∧ (¬ (f_text f_spot.toNatClampNeg) = 103 →
  (((f_text f_spot.toNatClampNeg) = 104 →
    K (0 : Int32) ((f_spot + 1) - 1, f_out, f_p1)
  ) ∧ (¬ (f_text f_spot.toNatClampNeg) = 104 →
  (((f_text f_spot.toNatClampNeg) = 105 →
    K (0 : Int32) ((f_spot + 1) - 1, f_out, f_p1)
  ) ∧ (¬ (f_text f_spot.toNatClampNeg) = 105 →
  (((f_text f_spot.toNatClampNeg) = 106 →
    K (0 : Int32) ((f_spot + 1) - 1, f_out, f_p1)
  ) ∧ (¬ (f_text f_spot.toNatClampNeg) = 106 →
  (((f_text f_spot.toNatClampNeg) = 107 →
    K (0 : Int32) ((f_spot + 1) - 1, f_out, f_p1)
  ) ∧ (¬ (f_text f_spot.toNatClampNeg) = 107 →
  (((f_text f_spot.toNatClampNeg) = 108 →
    K (0 : Int32) ((f_spot + 1) - 1, f_out, f_p1)
  ) ∧ (¬ (f_text f_spot.toNatClampNeg) = 108 →
  (((f_text f_spot.toNatClampNeg) = 109 →
    xp_X5_figures f_text f_size (f_spot + 1) 0 3 1 120 (fun r30 u30 =>
      ((r30 = (-1 : Int32) →
        K (0 : Int32) (u30, f_out, f_p1)
      ) ∧ (¬ r30 = (-1 : Int32) →
        xp_X5_canShoot f_p1 (fun r32 =>
          ((r32 = 0 →
            xp_X5_readCommand_300 f_text f_size K u30 f_out f_p1 0
          ) ∧ (¬ r32 = 0 →
            ((¬ (f_text f_spot.toNatClampNeg) = 116 →
              xp_X5_readCommand_289 f_text f_size K u30 f_out f_p1 0 r30
            ) ∧ ((f_text f_spot.toNatClampNeg) = 116 →
              xp_X5_readCommand_289 f_text f_size K u30 f_out f_p1 1 r30
            ))
          ))
        )
      ))
    )
  ) ∧ (¬ (f_text f_spot.toNatClampNeg) = 109 →
  (((f_text f_spot.toNatClampNeg) = 110 →
    xp_X5_newCameraOn f_p1 (fun r36 u36 =>
      ((r36 ≤ 0 →
        xp_X5_done f_out 0 (fun r38 u38 =>
          (narrow .boolean (.int r38) = .int r38) ∧
          K r38 (f_spot + 1, u38, u36)
        )
      ) ∧ (¬ r36 ≤ 0 →
        xp_X5_done f_out 1 (fun r39 u39 =>
          (narrow .boolean (.int r39) = .int r39) ∧
          K r39 (f_spot + 1, u39, u36)
        )
      ))
    )
  ) ∧ (¬ (f_text f_spot.toNatClampNeg) = 110 →
  (((f_text f_spot.toNatClampNeg) = 111 →
    xp_X5_figures f_text f_size (f_spot + 1) 0 2 0 23 (fun r41 u41 =>
      ((r41 = (-1 : Int32) →
        K (0 : Int32) (u41, f_out, f_p1)
      ) ∧ (¬ r41 = (-1 : Int32) →
        xp_X5_isTake f_p1 r41 (fun r43 =>
          ((r43 = 0 →
            xp_X5_readCommand_397 f_text f_size K u41 f_out f_p1 0
          ) ∧ (¬ r43 = 0 →
            ((¬ (f_text f_spot.toNatClampNeg) = 102 →
              xp_X5_readCommand_385 f_text f_size K u41 f_out f_p1 13 r41
            ) ∧ ((f_text f_spot.toNatClampNeg) = 102 →
              xp_X5_readCommand_385 f_text f_size K u41 f_out f_p1 14 r41
            ))
          ))
        )
      ))
    )
  ) ∧ (¬ (f_text f_spot.toNatClampNeg) = 111 →
  (((f_text f_spot.toNatClampNeg) = 112 →
    K (0 : Int32) ((f_spot + 1) - 1, f_out, f_p1)
  ) ∧ (¬ (f_text f_spot.toNatClampNeg) = 112 →
  (((f_text f_spot.toNatClampNeg) = 113 →
    K (0 : Int32) ((f_spot + 1) - 1, f_out, f_p1)
  ) ∧ (¬ (f_text f_spot.toNatClampNeg) = 113 →
  (((f_text f_spot.toNatClampNeg) = 114 →
    xp_X5_rightOn f_p1 (fun r49 u49 =>
      ((r49 ≤ 0 →
        xp_X5_done f_out 0 (fun r51 u51 =>
          (narrow .boolean (.int r51) = .int r51) ∧
          K r51 (f_spot + 1, u51, u49)
        )
      ) ∧ (¬ r49 ≤ 0 →
        xp_X5_done f_out 1 (fun r52 u52 =>
          (narrow .boolean (.int r52) = .int r52) ∧
          K r52 (f_spot + 1, u52, u49)
        )
      ))
    )
  ) ∧ (¬ (f_text f_spot.toNatClampNeg) = 114 →
  (((f_text f_spot.toNatClampNeg) = 115 →
    xp_X5_newSoundOn f_p1 (fun r54 u54 =>
      ((r54 ≤ 0 →
        xp_X5_done f_out 0 (fun r56 u56 =>
          (narrow .boolean (.int r56) = .int r56) ∧
          K r56 (f_spot + 1, u56, u54)
        )
      ) ∧ (¬ r54 ≤ 0 →
        xp_X5_done f_out 1 (fun r57 u57 =>
          (narrow .boolean (.int r57) = .int r57) ∧
          K r57 (f_spot + 1, u57, u54)
        )
      ))
    )
  ) ∧ (¬ (f_text f_spot.toNatClampNeg) = 115 →
  (((f_text f_spot.toNatClampNeg) = 116 →
    xp_X5_figures f_text f_size (f_spot + 1) 0 3 1 120 (fun r59 u59 =>
      ((r59 = (-1 : Int32) →
        K (0 : Int32) (u59, f_out, f_p1)
      ) ∧ (¬ r59 = (-1 : Int32) →
        xp_X5_canShoot f_p1 (fun r61 =>
          ((r61 = 0 →
            xp_X5_readCommand_300 f_text f_size K u59 f_out f_p1 0
          ) ∧ (¬ r61 = 0 →
            ((¬ (f_text f_spot.toNatClampNeg) = 116 →
              xp_X5_readCommand_289 f_text f_size K u59 f_out f_p1 0 r59
            ) ∧ ((f_text f_spot.toNatClampNeg) = 116 →
              xp_X5_readCommand_289 f_text f_size K u59 f_out f_p1 1 r59
            ))
          ))
        )
      ))
    )
  ) ∧ (¬ (f_text f_spot.toNatClampNeg) = 116 →
  (((f_text f_spot.toNatClampNeg) = 117 →
    K (0 : Int32) ((f_spot + 1) - 1, f_out, f_p1)
  ) ∧ (¬ (f_text f_spot.toNatClampNeg) = 117 →
  (((f_text f_spot.toNatClampNeg) = 118 →
    xp_X5_figures f_text f_size (f_spot + 1) 0 2 0 99 (fun r66 u66 =>
      ((r66 = (-1 : Int32) →
        xp_X5_readCommand_432 f_text f_size K u66 f_out f_p1 r66
      ) ∧ (¬ r66 = (-1 : Int32) →
        xp_X5_readCommand_432 f_text f_size K u66 f_out (upd f_p1 11 (r66 - 50)) r66
      ))
    )
  ) ∧ (¬ (f_text f_spot.toNatClampNeg) = 118 →
    K (0 : Int32) ((f_spot + 1) - 1, f_out, f_p1)
  ))))))))))))))))))))))))))))))))))))))))))
def xp_X5_readText_39  (f_text : Nat → Int32) (f_size : Int32) (K : Int32 → (Int32 × Int32 × (Nat → Int32)) → Prop)  : Nat → Int32 → Int32 → (Nat → Int32) → Prop
  | 0, _, _, _ => False
  | n + 1, f_spot, f_out, f_p1 =>
    ((f_size ≤ f_spot →
      K (-1 : Int32) (f_spot, f_out, f_p1)
    ) ∧ (¬ f_size ≤ f_spot →
      xp_X5_readCommand f_text f_size f_spot f_out f_p1 (fun r2 u2 =>
        ((¬ r2 = 0 →
          xp_X5_readText_39 f_text f_size K n u2.1 u2.2.1 u2.2.2
        ) ∧ (r2 = 0 →
          K u2.1 (u2.1, u2.2.1, u2.2.2)
        ))
      )
    ))
def xp_X5_readText  (f_text : Nat → Int32) (f_size : Int32) (f_spot : Int32) (f_out : Int32) (f_p1 : Nat → Int32)  (K : Int32 → (Int32 × Int32 × (Nat → Int32)) → Prop) : Prop :=
  xp_X5_begin f_p1 (fun u1 =>
    ((f_size = 0 →
      K (0 : Int32) (0, 0, u1)
    ) ∧ (¬ f_size = 0 →
      (((f_text 0) = 84 →
        ∃ n9, xp_X5_readText_39 f_text f_size K n9 1 0 u1
      ) ∧ (¬ (f_text 0) = 84 →
        K (0 : Int32) (0, 0, u1)
      ))
    ))
  )
def xp_X5_errorPosition  (f_text : Nat → Int32) (f_size : Int32) (f_refusal : Int32) (f_trial : Nat → Int32) (f_spot : Int32) (f_out : Int32)  (K : Int32 → (Int32 × (Nat → Int32) × Int32 × Int32) → Prop) : Prop :=
  xp_X5_readText f_text f_size f_spot f_out f_trial (fun r1 u1 =>
    K r1 (0, u1.2.2, u1.1, u1.2.1)
  )
def xp_X5_load_18  (f_text : Nat → Int32) (f_size : Int32) (K : Int32 → (Int32 × (Nat → Int32) × (Nat → Int32) × Int32 × (Nat → Int32) × Int32 × Int32) → Prop)  (f_refusal : Int32) (f_now : Nat → Int32) (f_trial : Nat → Int32) (f_acts : Int32) (f_isKept : Nat → Int32) (f_spot : Int32) (f_out : Int32) (t0 : Int32) : Prop :=
  xp_X5_refused f_refusal t0 (fun r1 u1 =>
    ((r1 = 0 →
      xp_X5_copyState 377 377 f_trial f_now 0 0 (fun u3 =>
        K f_out (u1, u3, f_trial, 0, upd (upd f_isKept 0 (vp_nar .boolean 0)) 1 (vp_nar .boolean 0), f_spot, f_out)
      )
    ) ∧ (¬ r1 = 0 →
      K (0 : Int32) (u1, f_now, f_trial, f_acts, f_isKept, f_spot, f_out)
    ))
  )
def xp_X5_load  (f_text : Nat → Int32) (f_size : Int32) (f_refusal : Int32) (f_now : Nat → Int32) (f_trial : Nat → Int32) (f_acts : Int32) (f_isKept : Nat → Int32) (f_spot : Int32) (f_out : Int32)  (K : Int32 → (Int32 × (Nat → Int32) × (Nat → Int32) × Int32 × (Nat → Int32) × Int32 × Int32) → Prop) : Prop :=
  xp_X5_readText f_text f_size f_spot f_out f_trial (fun r1 u1 =>
    ((¬ r1 = (-1 : Int32) →
      xp_X5_load_18 f_text f_size K f_refusal f_now u1.2.2 f_acts f_isKept u1.1 u1.2.1 1
    ) ∧ (r1 = (-1 : Int32) →
      xp_X5_load_18 f_text f_size K f_refusal f_now u1.2.2 f_acts f_isKept u1.1 u1.2.1 0
    ))
  )
def xp_X5_circledSeconds_4  (f_p1 : Nat → Int32) (K : Int32 → Prop)  : Nat → Int32 → Int32 → Prop
  | 0, _, _ => False
  | n + 1, v1, v2 =>
    (((f_p1 0) ≤ v2 →
      K v1
    ) ∧ (¬ (f_p1 0) ≤ v2 →
      xp_X5_of f_p1 v2 13 (fun r2 =>
        xp_X5_of f_p1 v2 7 (fun r3 =>
          xp_X5_circledSeconds_4 f_p1 K n (v1 + (r2 * r3)) (v2 + 1)
        )
      )
    ))
def xp_X5_circledSeconds  (f_p1 : Nat → Int32)   (K : Int32 → Prop) : Prop :=
  ∃ n9, xp_X5_circledSeconds_4 f_p1 K n9 0 0
def xp_X5_about_18  (f_now : Nat → Int32) (K : Int32 → Int32 → Prop)  (f_refusal : Int32) (v1 : Int32) (t0 : Int32) : Prop :=
  xp_X5_refused f_refusal t0 (fun r1 u1 =>
    ((r1 = 0 →
      ((v1 = 12 →
        xp_X5_wrong f_now (fun r5 =>
          K r5 (u1)
        )
      ) ∧ (¬ v1 = 12 →
      ((v1 = 13 →
        xp_X5_sum f_now 13 (fun r7 =>
          K r7 (u1)
        )
      ) ∧ (¬ v1 = 13 →
      ((v1 = 14 →
        xp_X5_circledSeconds f_now (fun r9 =>
          K r9 (u1)
        )
      ) ∧ (¬ v1 = 14 →
      ((v1 = 15 →
        xp_X5_sum f_now 14 (fun r11 =>
          K r11 (u1)
        )
      ) ∧ (¬ v1 = 15 →
      ((v1 = 16 →
        xp_X5_astray f_now (fun r13 =>
          K r13 (u1)
        )
      ) ∧ (¬ v1 = 16 →
        (vp_in v1 377) ∧
        K (f_now v1.toNatClampNeg) (u1)
      ))))))))))
    ) ∧ (¬ r1 = 0 →
      K (0 : Int32) (u1)
    ))
  )
def xp_X5_about  (f_now : Nat → Int32) (f_refusal : Int32) (x1 : Int32) (K : Int32 → Int32 → Prop) : Prop :=
  xp_X5_in x1.toInt64 0 16 (fun r1 =>
    ((r1 = 0 →
      xp_X5_about_18 f_now K f_refusal x1 1
    ) ∧ (¬ r1 = 0 →
      xp_X5_about_18 f_now K f_refusal x1 0
    ))
  )
def xp_X5_take_33  (f_now : Nat → Int32) (K : Int32 → Int32 → Prop)  (f_refusal : Int32) (v1 : Int32) (v2 : Int32) (t0 : Int32) : Prop :=
  xp_X5_refused f_refusal t0 (fun r1 u1 =>
    ((r1 = 0 →
      ((¬ v2 = 2 →
        ((¬ v2 = 16 →
          ((2 ≤ v2 →
            xp_X5_of f_now v1 (v2 - 1) (fun r6 =>
              K r6 (u1)
            )
          ) ∧ (¬ 2 ≤ v2 →
            xp_X5_of f_now v1 v2 (fun r7 =>
              K r7 (u1)
            )
          ))
        ) ∧ (v2 = 16 →
          xp_X5_isRight f_now v1 (fun r8 =>
            ((r8 = 0 →
              K (0 : Int32) (u1)
            ) ∧ (¬ r8 = 0 →
              K (1 : Int32) (u1)
            ))
          )
        ))
      ) ∧ (v2 = 2 →
        xp_X5_numberOf f_now v1 (fun r10 =>
          K r10 (u1)
        )
      ))
    ) ∧ (¬ r1 = 0 →
      K (0 : Int32) (u1)
    ))
  )
def xp_X5_take  (f_now : Nat → Int32) (f_refusal : Int32) (x1 : Int32) (x2 : Int32) (K : Int32 → Int32 → Prop) : Prop :=
  xp_X5_isTake f_now x1 (fun r1 =>
    ((¬ r1 = 0 →
      xp_X5_in x2.toInt64 0 16 (fun r3 =>
        ((r3 = 0 →
          xp_X5_take_33 f_now K f_refusal x1 x2 2
        ) ∧ (¬ r3 = 0 →
          xp_X5_take_33 f_now K f_refusal x1 x2 0
        ))
      )
    ) ∧ (r1 = 0 →
      xp_X5_take_33 f_now K f_refusal x1 x2 1
    ))
  )
def xp_X5_write   (f_line : Nat → Int32) (f_length : Int32) (x1 : Int32) (K : ((Nat → Int32) × Int32) → Prop) : Prop :=
  (vp_in f_length 60) ∧
  K (upd f_line f_length.toNatClampNeg x1, f_length + 1)
def xp_X5_writeNumber_18   (K : ((Nat → Int32) × Int32) → Prop)  : Nat → (Nat → Int32) → Int32 → Int32 → Int32 → Prop
  | 0, _, _, _, _ => False
  | n + 1, f_line, f_length, v1, v2 =>
    ((v2 ≤ 0 →
      K (f_line, f_length)
    ) ∧ (¬ v2 ≤ 0 →
      (¬ v2 = 0) ∧
      xp_X5_write f_line f_length (48 + ((v1 / v2) - (v1 / v2) / 10 * 10)) (fun u2 =>
        xp_X5_writeNumber_18 K n u2.1 u2.2 v1 (v2 / 10)
      )
    ))
def xp_X5_writeNumber_2   (K : ((Nat → Int32) × Int32) → Prop)  : Nat → (Nat → Int32) → Int32 → Int32 → Int32 → Prop
  | 0, _, _, _, _ => False
  | n + 1, f_line, f_length, v1, v2 =>
    (¬ v2 = 0) ∧
    (((v1 / v2) ≤ 9 →
      ∃ n9, xp_X5_writeNumber_18 K n9 f_line f_length v1 v2
    ) ∧ (¬ (v1 / v2) ≤ 9 →
      xp_X5_writeNumber_2 K n f_line f_length v1 (v2 * 10)
    ))
def xp_X5_writeNumber   (f_line : Nat → Int32) (f_length : Int32) (x1 : Int32) (K : ((Nat → Int32) × Int32) → Prop) : Prop :=
  ∃ n9, xp_X5_writeNumber_2 K n9 f_line f_length x1 1
def xp_X5_writeRoll   (f_line : Nat → Int32) (f_length : Int32) (x1 : Int32) (x2 : Int32) (x3 : Int32) (K : ((Nat → Int32) × Int32) → Prop) : Prop :=
  xp_X5_write f_line f_length 32 (fun u1 =>
    xp_X5_write u1.1 u1.2 x1 (fun u2 =>
      xp_X5_writeNumber u2.1 u2.2 x2 (fun u3 =>
        xp_X5_write u3.1 u3.2 58 (fun u4 =>
          xp_X5_writeNumber u4.1 u4.2 x3 (fun u5 =>
            K (u5.1, u5.2)
          )
        )
      )
    )
  )
def xp_X5_line_208  (f_now : Nat → Int32) (K : Int32 → (Int32 × (Nat → Int32) × Int32) → Prop)  (f_refusal : Int32) (f_line : Nat → Int32) (f_length : Int32) (v2 : Int32) : Prop :=
  ((f_length ≤ v2 →
    K (-1 : Int32) (f_refusal, f_line, f_length)
  ) ∧ (¬ f_length ≤ v2 →
    (vp_in v2 60) ∧
    K (f_line v2.toNatClampNeg) (f_refusal, f_line, f_length)
  ))
def xp_X5_line_143  (f_now : Nat → Int32) (K : Int32 → (Int32 × (Nat → Int32) × Int32) → Prop)  (f_refusal : Int32) (f_line : Nat → Int32) (f_length : Int32) (v1 : Int32) (v2 : Int32) : Prop :=
  xp_X5_of f_now v1 5 (fun r1 =>
    xp_X5_of f_now v1 6 (fun r2 =>
      xp_X5_writeRoll f_line f_length 99 r1 r2 (fun u3 =>
        xp_X5_of f_now v1 8 (fun r4 =>
          ((r4 = (-1 : Int32) →
            xp_X5_line_208 f_now K f_refusal u3.1 u3.2 v2
          ) ∧ (¬ r4 = (-1 : Int32) →
            xp_X5_of f_now v1 8 (fun r6 =>
              xp_X5_of f_now v1 10 (fun r7 =>
                xp_X5_writeRoll u3.1 u3.2 115 r6 r7 (fun u8 =>
                  xp_X5_line_208 f_now K f_refusal u8.1 u8.2 v2
                )
              )
            )
          ))
        )
      )
    )
  )
def xp_X5_line_123  (f_now : Nat → Int32) (K : Int32 → (Int32 × (Nat → Int32) × Int32) → Prop)  (f_refusal : Int32) (f_line : Nat → Int32) (f_length : Int32) (v1 : Int32) (v2 : Int32) : Prop :=
  xp_X5_of f_now v1 14 (fun r1 =>
    ((¬ r1 = 1 →
      xp_X5_line_143 f_now K f_refusal f_line f_length v1 v2
    ) ∧ (r1 = 1 →
      xp_X5_write f_line f_length 120 (fun u3 =>
        xp_X5_line_143 f_now K f_refusal u3.1 u3.2 v1 v2
      )
    ))
  )
def xp_X5_line_106  (f_now : Nat → Int32) (K : Int32 → (Int32 × (Nat → Int32) × Int32) → Prop)  (f_refusal : Int32) (f_line : Nat → Int32) (f_length : Int32) (v1 : Int32) (v2 : Int32) : Prop :=
  xp_X5_isRight f_now v1 (fun r1 =>
    ((¬ r1 = 0 →
      xp_X5_line_123 f_now K f_refusal f_line f_length v1 v2
    ) ∧ (r1 = 0 →
      xp_X5_write f_line f_length 63 (fun u3 =>
        xp_X5_line_123 f_now K f_refusal u3.1 u3.2 v1 v2
      )
    ))
  )
def xp_X5_line_25  (f_now : Nat → Int32) (K : Int32 → (Int32 × (Nat → Int32) × Int32) → Prop)  (f_refusal : Int32) (f_line : Nat → Int32) (f_length : Int32) (v1 : Int32) (v2 : Int32) (t0 : Int32) : Prop :=
  xp_X5_refused f_refusal t0 (fun r1 u1 =>
    ((r1 = 0 →
      xp_X5_of f_now v1 2 (fun r3 =>
        xp_X5_writeNumber f_line 0 r3 (fun u4 =>
          xp_X5_of f_now v1 3 (fun r5 =>
            xp_X5_write u4.1 u4.2 (65 + r5) (fun u6 =>
              xp_X5_write u6.1 u6.2 47 (fun u7 =>
                xp_X5_of f_now v1 4 (fun r8 =>
                  xp_X5_writeNumber u7.1 u7.2 r8 (fun u9 =>
                    xp_X5_of f_now v1 13 (fun r10 =>
                      ((¬ r10 = 1 →
                        xp_X5_line_106 f_now K u1 u9.1 u9.2 v1 v2
                      ) ∧ (r10 = 1 →
                        xp_X5_write u9.1 u9.2 42 (fun u12 =>
                          xp_X5_line_106 f_now K u1 u12.1 u12.2 v1 v2
                        )
                      ))
                    )
                  )
                )
              )
            )
          )
        )
      )
    ) ∧ (¬ r1 = 0 →
      K (0 : Int32) (u1, f_line, f_length)
    ))
  )
def xp_X5_line  (f_now : Nat → Int32) (f_refusal : Int32) (f_line : Nat → Int32) (f_length : Int32) (x1 : Int32) (x2 : Int32) (K : Int32 → (Int32 × (Nat → Int32) × Int32) → Prop) : Prop :=
  xp_X5_isTake f_now x1 (fun r1 =>
    ((¬ r1 = 0 →
      ((x2 < 0 →
        xp_X5_line_25 f_now K f_refusal f_line f_length x1 x2 2
      ) ∧ (¬ x2 < 0 →
        xp_X5_line_25 f_now K f_refusal f_line f_length x1 x2 0
      ))
    ) ∧ (r1 = 0 →
      xp_X5_line_25 f_now K f_refusal f_line f_length x1 x2 1
    ))
  )
def xp_X5_setting_18  (f_now : Nat → Int32) (K : Int32 → Int32 → Prop)  (f_refusal : Int32) (v1 : Int32) (t0 : Int32) : Prop :=
  xp_X5_refused f_refusal t0 (fun r1 u1 =>
    ((r1 = 0 →
      (vp_in (13 + v1) 377) ∧
      K (f_now (13 + v1).toNatClampNeg) (u1)
    ) ∧ (¬ r1 = 0 →
      K (0 : Int32) (u1)
    ))
  )
def xp_X5_setting  (f_now : Nat → Int32) (f_refusal : Int32) (x1 : Int32) (K : Int32 → Int32 → Prop) : Prop :=
  xp_X5_in x1.toInt64 0 3 (fun r1 =>
    ((r1 = 0 →
      xp_X5_setting_18 f_now K f_refusal x1 1
    ) ∧ (¬ r1 = 0 →
      xp_X5_setting_18 f_now K f_refusal x1 0
    ))
  )
def xp_X5_remember_50  (f_now : Nat → Int32) (K : ((Nat → Int32) × Int32) → Prop)  (f_diary : Nat → Int32) (f_acts : Int32) : Prop :=
  xp_X5_copyState 377 5278 f_now f_diary 0 (377 * f_acts) (fun u1 =>
    K (u1, f_acts + 1)
  )
def xp_X5_remember_11  (f_now : Nat → Int32) (K : ((Nat → Int32) × Int32) → Prop)  : Nat → (Nat → Int32) → Int32 → Int32 → Prop
  | 0, _, _, _ => False
  | n + 1, f_diary, f_acts, v1 =>
    ((4901 ≤ v1 →
      xp_X5_remember_50 f_now K f_diary (f_acts - 1)
    ) ∧ (¬ 4901 ≤ v1 →
      (vp_in (v1 + 377) 5278) ∧
      (vp_in v1 5278) ∧
      xp_X5_remember_11 f_now K n (upd f_diary v1.toNatClampNeg (f_diary (v1 + 377).toNatClampNeg)) f_acts (v1 + 1)
    ))
def xp_X5_remember  (f_now : Nat → Int32) (f_diary : Nat → Int32) (f_acts : Int32)  (K : ((Nat → Int32) × Int32) → Prop) : Prop :=
  ((¬ f_acts = 14 →
    xp_X5_remember_50 f_now K f_diary f_acts
  ) ∧ (f_acts = 14 →
    ∃ n9, xp_X5_remember_11 f_now K n9 f_diary f_acts 0
  ))
def xp_X5_call_14   (K : Int32 → (Int32 × (Nat → Int32) × (Nat → Int32) × Int32) → Prop)  (f_refusal : Int32) (f_now : Nat → Int32) (f_diary : Nat → Int32) (f_acts : Int32) (v1 : Int32) (v2 : Int32) (t0 : Int32) : Prop :=
  xp_X5_refused f_refusal t0 (fun r1 u1 =>
    ((r1 = 0 →
      xp_X5_remember f_now f_diary f_acts (fun u3 =>
        xp_X5_callOn f_now v1 v2 (fun r4 u4 =>
          K r4 (u1, u4, u3.1, u3.2)
        )
      )
    ) ∧ (¬ r1 = 0 →
      K (0 : Int32) (u1, f_now, f_diary, f_acts)
    ))
  )
def xp_X5_call   (f_refusal : Int32) (f_now : Nat → Int32) (f_diary : Nat → Int32) (f_acts : Int32) (x1 : Int32) (x2 : Int32) (K : Int32 → (Int32 × (Nat → Int32) × (Nat → Int32) × Int32) → Prop) : Prop :=
  xp_X5_isSetup x1 x2 (fun r1 =>
    ((r1 = 0 →
      xp_X5_call_14 K f_refusal f_now f_diary f_acts x1 x2 1
    ) ∧ (¬ r1 = 0 →
      xp_X5_call_14 K f_refusal f_now f_diary f_acts x1 x2 0
    ))
  )
def xp_X5_board_26   (K : Int32 → (Int32 × (Nat → Int32) × (Nat → Int32) × Int32) → Prop)  (f_refusal : Int32) (f_now : Nat → Int32) (f_diary : Nat → Int32) (f_acts : Int32) (v1 : Int32) (v2 : Int32) (v3 : Int32) (t0 : Int32) : Prop :=
  xp_X5_refused f_refusal t0 (fun r1 u1 =>
    ((r1 = 0 →
      xp_X5_remember f_now f_diary f_acts (fun u3 =>
        xp_X5_boardOn f_now v1 v2 v3 (fun r4 u4 =>
          K r4 (u1, u4, u3.1, u3.2)
        )
      )
    ) ∧ (¬ r1 = 0 →
      K (0 : Int32) (u1, f_now, f_diary, f_acts)
    ))
  )
def xp_X5_board   (f_refusal : Int32) (f_now : Nat → Int32) (f_diary : Nat → Int32) (f_acts : Int32) (x1 : Int32) (x2 : Int32) (x3 : Int32) (K : Int32 → (Int32 × (Nat → Int32) × (Nat → Int32) × Int32) → Prop) : Prop :=
  xp_X5_isSetup x1 x2 (fun r1 =>
    ((r1 = 0 →
      xp_X5_board_26 K f_refusal f_now f_diary f_acts x1 x2 x3 1
    ) ∧ (¬ r1 = 0 →
      xp_X5_in x3.toInt64 1 99 (fun r3 =>
        ((r3 = 0 →
          xp_X5_board_26 K f_refusal f_now f_diary f_acts x1 x2 x3 1
        ) ∧ (¬ r3 = 0 →
          xp_X5_board_26 K f_refusal f_now f_diary f_acts x1 x2 x3 0
        ))
      )
    ))
  )
def xp_X5_right   (f_refusal : Int32) (f_now : Nat → Int32) (f_diary : Nat → Int32) (f_acts : Int32)  (K : Int32 → (Int32 × (Nat → Int32) × (Nat → Int32) × Int32) → Prop) : Prop :=
  xp_X5_remember f_now f_diary f_acts (fun u1 =>
    xp_X5_rightOn f_now (fun r2 u2 =>
      K r2 (0, u2, u1.1, u1.2)
    )
  )
def xp_X5_shoot_32   (K : Int32 → (Int32 × (Nat → Int32) × (Nat → Int32) × Int32) → Prop)  (f_refusal : Int32) (f_now : Nat → Int32) (f_diary : Nat → Int32) (f_acts : Int32) (v1 : Int32) (v2 : Int32) (t0 : Int32) : Prop :=
  xp_X5_refused f_refusal t0 (fun r1 u1 =>
    ((r1 = 0 →
      xp_X5_remember f_now f_diary f_acts (fun u3 =>
        xp_X5_shootOn f_now v1 v2 (fun r4 u4 =>
          K r4 (u1, u4, u3.1, u3.2)
        )
      )
    ) ∧ (¬ r1 = 0 →
      K (0 : Int32) (u1, f_now, f_diary, f_acts)
    ))
  )
def xp_X5_shoot   (f_refusal : Int32) (f_now : Nat → Int32) (f_diary : Nat → Int32) (f_acts : Int32) (x1 : Int32) (x2 : Int32) (K : Int32 → (Int32 × (Nat → Int32) × (Nat → Int32) × Int32) → Prop) : Prop :=
  xp_X5_in x1.toInt64 1 120 (fun r1 =>
    ((¬ r1 = 0 →
      xp_X5_canShoot f_now (fun r3 =>
        ((r3 = 0 →
          xp_X5_shoot_32 K f_refusal f_now f_diary f_acts x1 x2 2
        ) ∧ (¬ r3 = 0 →
          xp_X5_shoot_32 K f_refusal f_now f_diary f_acts x1 x2 0
        ))
      )
    ) ∧ (r1 = 0 →
      xp_X5_shoot_32 K f_refusal f_now f_diary f_acts x1 x2 1
    ))
  )
def xp_X5_newCamera   (f_refusal : Int32) (f_now : Nat → Int32) (f_diary : Nat → Int32) (f_acts : Int32)  (K : Int32 → (Int32 × (Nat → Int32) × (Nat → Int32) × Int32) → Prop) : Prop :=
  xp_X5_remember f_now f_diary f_acts (fun u1 =>
    xp_X5_newCameraOn f_now (fun r2 u2 =>
      K r2 (0, u2, u1.1, u1.2)
    )
  )
def xp_X5_newSound   (f_refusal : Int32) (f_now : Nat → Int32) (f_diary : Nat → Int32) (f_acts : Int32)  (K : Int32 → (Int32 × (Nat → Int32) × (Nat → Int32) × Int32) → Prop) : Prop :=
  xp_X5_remember f_now f_diary f_acts (fun u1 =>
    xp_X5_newSoundOn f_now (fun r2 u2 =>
      K r2 (0, u2, u1.1, u1.2)
    )
  )
def xp_X5_circle_17   (K : Int32 → (Int32 × (Nat → Int32) × (Nat → Int32) × Int32) → Prop)  (f_refusal : Int32) (f_now : Nat → Int32) (f_diary : Nat → Int32) (f_acts : Int32) (v1 : Int32) (v2 : Int32) (t0 : Int32) : Prop :=
  xp_X5_refused f_refusal t0 (fun r1 u1 =>
    ((r1 = 0 →
      xp_X5_remember f_now f_diary f_acts (fun u3 =>
        xp_X5_markOn f_now v1 13 v2 (fun r4 u4 =>
          K r4 (u1, u4, u3.1, u3.2)
        )
      )
    ) ∧ (¬ r1 = 0 →
      K (0 : Int32) (u1, f_now, f_diary, f_acts)
    ))
  )
def xp_X5_circle   (f_refusal : Int32) (f_now : Nat → Int32) (f_diary : Nat → Int32) (f_acts : Int32) (x1 : Int32) (x2 : Int32) (K : Int32 → (Int32 × (Nat → Int32) × (Nat → Int32) × Int32) → Prop) : Prop :=
  xp_X5_isTake f_now x1 (fun r1 =>
    ((r1 = 0 →
      xp_X5_circle_17 K f_refusal f_now f_diary f_acts x1 x2 1
    ) ∧ (¬ r1 = 0 →
      xp_X5_circle_17 K f_refusal f_now f_diary f_acts x1 x2 0
    ))
  )
def xp_X5_falseStart_17   (K : Int32 → (Int32 × (Nat → Int32) × (Nat → Int32) × Int32) → Prop)  (f_refusal : Int32) (f_now : Nat → Int32) (f_diary : Nat → Int32) (f_acts : Int32) (v1 : Int32) (v2 : Int32) (t0 : Int32) : Prop :=
  xp_X5_refused f_refusal t0 (fun r1 u1 =>
    ((r1 = 0 →
      xp_X5_remember f_now f_diary f_acts (fun u3 =>
        xp_X5_markOn f_now v1 14 v2 (fun r4 u4 =>
          K r4 (u1, u4, u3.1, u3.2)
        )
      )
    ) ∧ (¬ r1 = 0 →
      K (0 : Int32) (u1, f_now, f_diary, f_acts)
    ))
  )
def xp_X5_falseStart   (f_refusal : Int32) (f_now : Nat → Int32) (f_diary : Nat → Int32) (f_acts : Int32) (x1 : Int32) (x2 : Int32) (K : Int32 → (Int32 × (Nat → Int32) × (Nat → Int32) × Int32) → Prop) : Prop :=
  xp_X5_isTake f_now x1 (fun r1 =>
    ((r1 = 0 →
      xp_X5_falseStart_17 K f_refusal f_now f_diary f_acts x1 x2 1
    ) ∧ (¬ r1 = 0 →
      xp_X5_falseStart_17 K f_refusal f_now f_diary f_acts x1 x2 0
    ))
  )
def xp_X5_fix_17   (K : Int32 → (Int32 × (Nat → Int32) × (Nat → Int32) × Int32) → Prop)  (f_refusal : Int32) (f_now : Nat → Int32) (f_diary : Nat → Int32) (f_acts : Int32) (v1 : Int32) (t0 : Int32) : Prop :=
  xp_X5_refused f_refusal t0 (fun r1 u1 =>
    ((r1 = 0 →
      xp_X5_remember f_now f_diary f_acts (fun u3 =>
        xp_X5_fixOn f_now v1 (fun r4 u4 =>
          K r4 (u1, u4, u3.1, u3.2)
        )
      )
    ) ∧ (¬ r1 = 0 →
      K (0 : Int32) (u1, f_now, f_diary, f_acts)
    ))
  )
def xp_X5_fix   (f_refusal : Int32) (f_now : Nat → Int32) (f_diary : Nat → Int32) (f_acts : Int32) (x1 : Int32) (K : Int32 → (Int32 × (Nat → Int32) × (Nat → Int32) × Int32) → Prop) : Prop :=
  xp_X5_isTake f_now x1 (fun r1 =>
    ((r1 = 0 →
      xp_X5_fix_17 K f_refusal f_now f_diary f_acts x1 1
    ) ∧ (¬ r1 = 0 →
      xp_X5_fix_17 K f_refusal f_now f_diary f_acts x1 0
    ))
  )
def xp_X5_off_20   (K : Int32 → (Int32 × (Nat → Int32) × (Nat → Int32) × Int32) → Prop)  (f_refusal : Int32) (f_now : Nat → Int32) (f_diary : Nat → Int32) (f_acts : Int32) (v1 : Int32) (t0 : Int32) : Prop :=
  xp_X5_refused f_refusal t0 (fun r1 u1 =>
    ((r1 = 0 →
      xp_X5_remember f_now f_diary f_acts (fun u3 =>
        K (f_now 11) (u1, upd f_now 11 v1, u3.1, u3.2)
      )
    ) ∧ (¬ r1 = 0 →
      K (0 : Int32) (u1, f_now, f_diary, f_acts)
    ))
  )
def xp_X5_off   (f_refusal : Int32) (f_now : Nat → Int32) (f_diary : Nat → Int32) (f_acts : Int32) (x1 : Int32) (K : Int32 → (Int32 × (Nat → Int32) × (Nat → Int32) × Int32) → Prop) : Prop :=
  xp_X5_in x1.toInt64 (-99 : Int64) 99 (fun r1 =>
    ((r1 = 0 →
      xp_X5_off_20 K f_refusal f_now f_diary f_acts x1 1
    ) ∧ (¬ r1 = 0 →
      xp_X5_off_20 K f_refusal f_now f_diary f_acts x1 0
    ))
  )
def xp_X5_set_14   (K : Int32 → (Int32 × (Nat → Int32) × (Nat → Int32) × Int32) → Prop)  (f_refusal : Int32) (f_now : Nat → Int32) (f_diary : Nat → Int32) (f_acts : Int32) (v1 : Int32) (v2 : Int32) (t0 : Int32) : Prop :=
  xp_X5_refused f_refusal t0 (fun r1 u1 =>
    ((r1 = 0 →
      xp_X5_remember f_now f_diary f_acts (fun u3 =>
        (vp_in (13 + v1) 377) ∧
        (vp_in (13 + v1) 377) ∧
        K (f_now (13 + v1).toNatClampNeg) (u1, upd f_now ((13 + v1).toNatClampNeg) v2, u3.1, u3.2)
      )
    ) ∧ (¬ r1 = 0 →
      K (0 : Int32) (u1, f_now, f_diary, f_acts)
    ))
  )
def xp_X5_set   (f_refusal : Int32) (f_now : Nat → Int32) (f_diary : Nat → Int32) (f_acts : Int32) (x1 : Int32) (x2 : Int32) (K : Int32 → (Int32 × (Nat → Int32) × (Nat → Int32) × Int32) → Prop) : Prop :=
  xp_X5_isSetting x1 x2 (fun r1 =>
    ((r1 = 0 →
      xp_X5_set_14 K f_refusal f_now f_diary f_acts x1 x2 1
    ) ∧ (¬ r1 = 0 →
      xp_X5_set_14 K f_refusal f_now f_diary f_acts x1 x2 0
    ))
  )
def xp_X5_undo_13  (f_diary : Nat → Int32) (K : Int32 → (Int32 × (Nat → Int32) × Int32) → Prop)  (f_refusal : Int32) (f_now : Nat → Int32) (f_acts : Int32) (t0 : Int32) : Prop :=
  xp_X5_refused f_refusal t0 (fun r1 u1 =>
    ((r1 = 0 →
      xp_X5_copyState 5278 377 f_diary f_now (377 * (f_acts - 1)) 0 (fun u3 =>
        K (f_acts - 1) (u1, u3, f_acts - 1)
      )
    ) ∧ (¬ r1 = 0 →
      K (0 : Int32) (u1, f_now, f_acts)
    ))
  )
def xp_X5_undo  (f_diary : Nat → Int32) (f_refusal : Int32) (f_now : Nat → Int32) (f_acts : Int32)  (K : Int32 → (Int32 × (Nat → Int32) × Int32) → Prop) : Prop :=
  ((¬ f_acts = 0 →
    xp_X5_undo_13 f_diary K f_refusal f_now f_acts 0
  ) ∧ (f_acts = 0 →
    xp_X5_undo_13 f_diary K f_refusal f_now f_acts 1
  ))
def xp_X5_find_97  (f_now : Nat → Int32) (K : Int32 → Int32 → Prop) (X20 : Int32 → Int32 → Int32 → Int32 → Int32 → Int32 → Int32 → Prop) (f_refusal : Int32) (v1 : Int32) (v2 : Int32) (v3 : Int32) (v4 : Int32) (v5 : Int32) (v6 : Int32) (v7 : Int32) (t0 : Int32) : Prop :=
  ((v7 = 0 →
    X20 f_refusal v1 v2 v3 v4 v5 (v6 + 1)
  ) ∧ (¬ v7 = 0 →
    ((¬ t0 = v3 →
      X20 f_refusal v1 v2 v3 v4 v5 (v6 + 1)
    ) ∧ (t0 = v3 →
      ((¬ v4 = 0 →
        K v6 (f_refusal)
      ) ∧ (v4 = 0 →
        xp_X5_of f_now v6 14 (fun r4 =>
          ((¬ r4 = 0 →
            X20 f_refusal v1 v2 v3 v4 v5 (v6 + 1)
          ) ∧ (r4 = 0 →
            K v6 (f_refusal)
          ))
        )
      ))
    ))
  ))
def xp_X5_find_68  (f_now : Nat → Int32) (K : Int32 → Int32 → Prop) (X20 : Int32 → Int32 → Int32 → Int32 → Int32 → Int32 → Int32 → Prop) (f_refusal : Int32) (v1 : Int32) (v2 : Int32) (v3 : Int32) (v4 : Int32) (v5 : Int32) (v6 : Int32) (t0 : Int32) : Prop :=
  ((v4 = 0 →
    xp_X5_numberOf f_now v6 (fun r2 =>
      xp_X5_find_97 f_now K X20 f_refusal v1 v2 v3 v4 v5 v6 t0 r2
    )
  ) ∧ (¬ v4 = 0 →
    xp_X5_of f_now v6 4 (fun r3 =>
      xp_X5_find_97 f_now K X20 f_refusal v1 v2 v3 v4 v5 v6 t0 r3
    )
  ))
def xp_X5_find_20  (f_now : Nat → Int32) (K : Int32 → Int32 → Prop)  : Nat → Int32 → Int32 → Int32 → Int32 → Int32 → Int32 → Int32 → Prop
  | 0, _, _, _, _, _, _, _ => False
  | n + 1, f_refusal, v1, v2, v3, v4, v5, v6 =>
    (((f_now 0) ≤ v6 →
      K (-1 : Int32) (f_refusal)
    ) ∧ (¬ (f_now 0) ≤ v6 →
      xp_X5_of f_now v6 v5 (fun r2 =>
        ((¬ r2 = v1 →
          xp_X5_find_68 f_now K (fun f_refusal v1 v2 v3 v4 v5 v6 => xp_X5_find_20 f_now K n f_refusal v1 v2 v3 v4 v5 v6) f_refusal v1 v2 v3 v4 v5 v6 0
        ) ∧ (r2 = v1 →
          xp_X5_of f_now v6 (v5 + 1) (fun r4 =>
            ((¬ r4 = v2 →
              xp_X5_find_68 f_now K (fun f_refusal v1 v2 v3 v4 v5 v6 => xp_X5_find_20 f_now K n f_refusal v1 v2 v3 v4 v5 v6) f_refusal v1 v2 v3 v4 v5 v6 0
            ) ∧ (r4 = v2 →
              xp_X5_find_68 f_now K (fun f_refusal v1 v2 v3 v4 v5 v6 => xp_X5_find_20 f_now K n f_refusal v1 v2 v3 v4 v5 v6) f_refusal v1 v2 v3 v4 v5 v6 1
            ))
          )
        ))
      )
    ))
def xp_X5_find  (f_now : Nat → Int32) (f_refusal : Int32) (x1 : Int32) (x2 : Int32) (x3 : Int32) (x4 : Int32) (K : Int32 → Int32 → Prop) : Prop :=
  ((x4 = 0 →
    ∃ n9, xp_X5_find_20 f_now K n9 0 x1 x2 x3 x4 0 0
  ) ∧ (¬ x4 = 0 →
    ∃ n9, xp_X5_find_20 f_now K n9 0 x1 x2 x3 x4 2 0
  ))
def xp_X5_covers_36  (f_p1 : Nat → Int32) (K : Int32 → Prop) (X3 : Int32 → Int32 → Int32 → Int32 → Int32 → Prop) (v1 : Int32) (v2 : Int32) (v3 : Int32) (v4 : Int32) (v5 : Int32) (t0 : Int32) : Prop :=
  xp_X5_of f_p1 v5 v3 (fun r1 =>
    ((t0 = 0 →
      X3 v1 v2 v3 v4 (v5 + 1)
    ) ∧ (¬ t0 = 0 →
      ((v4 < r1 →
        X3 v1 v2 v3 v4 (v5 + 1)
      ) ∧ (¬ v4 < r1 →
        xp_X5_of f_p1 v5 7 (fun r4 =>
          (((r1 + r4) ≤ v4 →
            X3 v1 v2 v3 v4 (v5 + 1)
          ) ∧ (¬ (r1 + r4) ≤ v4 →
            K v5
          ))
        )
      ))
    ))
  )
def xp_X5_covers_3  (f_p1 : Nat → Int32) (K : Int32 → Prop)  : Nat → Int32 → Int32 → Int32 → Int32 → Int32 → Prop
  | 0, _, _, _, _, _ => False
  | n + 1, v1, v2, v3, v4, v5 =>
    (((f_p1 0) ≤ v5 →
      K (-1 : Int32)
    ) ∧ (¬ (f_p1 0) ≤ v5 →
      ((v1 = (-1 : Int32) →
        xp_X5_covers_36 f_p1 K (fun v1 v2 v3 v4 v5 => xp_X5_covers_3 f_p1 K n v1 v2 v3 v4 v5) v1 v2 v3 v4 v5 1
      ) ∧ (¬ v1 = (-1 : Int32) →
        ((v2 ≤ 0 →
          xp_X5_covers_36 f_p1 K (fun v1 v2 v3 v4 v5 => xp_X5_covers_3 f_p1 K n v1 v2 v3 v4 v5) v1 v2 v3 v4 v5 0
        ) ∧ (¬ v2 ≤ 0 →
          xp_X5_of f_p1 v5 v1 (fun r4 =>
            ((¬ r4 = v2 →
              xp_X5_covers_36 f_p1 K (fun v1 v2 v3 v4 v5 => xp_X5_covers_3 f_p1 K n v1 v2 v3 v4 v5) v1 v2 v3 v4 v5 0
            ) ∧ (r4 = v2 →
              xp_X5_covers_36 f_p1 K (fun v1 v2 v3 v4 v5 => xp_X5_covers_3 f_p1 K n v1 v2 v3 v4 v5) v1 v2 v3 v4 v5 1
            ))
          )
        ))
      ))
    ))
def xp_X5_covers  (f_p1 : Nat → Int32)  (x2 : Int32) (x3 : Int32) (x4 : Int32) (x5 : Int32) (K : Int32 → Prop) : Prop :=
  ∃ n9, xp_X5_covers_3 f_p1 K n9 x2 x3 x4 x5 0
def xp_X5_atCamera  (f_now : Nat → Int32) (f_refusal : Int32) (x1 : Int32) (x2 : Int32) (K : Int32 → Int32 → Prop) : Prop :=
  xp_X5_covers f_now 5 x1 6 x2 (fun r1 =>
    K r1 (0)
  )
def xp_X5_atSound  (f_now : Nat → Int32) (f_refusal : Int32) (x1 : Int32) (x2 : Int32) (K : Int32 → Int32 → Prop) : Prop :=
  xp_X5_covers f_now 8 x1 9 x2 (fun r1 =>
    K r1 (0)
  )
def xp_X5_atTime  (f_now : Nat → Int32) (f_refusal : Int32) (x1 : Int32) (K : Int32 → Int32 → Prop) : Prop :=
  xp_X5_covers f_now (-1 : Int32) 0 11 x1 (fun r1 =>
    K r1 (0)
  )
def xp_X5_byFile_7  (f_now : Nat → Int32) (K : Int32 → Int32 → Prop)  : Nat → Int32 → Int32 → Int32 → Int32 → Prop
  | 0, _, _, _, _ => False
  | n + 1, f_refusal, v1, v2, v3 =>
    (((f_now 0) ≤ v3 →
      K (-1 : Int32) (f_refusal)
    ) ∧ (¬ (f_now 0) ≤ v3 →
      ((v1 ≤ 0 →
        xp_X5_byFile_7 f_now K n f_refusal v1 v2 (v3 + 1)
      ) ∧ (¬ v1 ≤ 0 →
        xp_X5_of f_now v3 8 (fun r3 =>
          ((¬ r3 = v1 →
            xp_X5_byFile_7 f_now K n f_refusal v1 v2 (v3 + 1)
          ) ∧ (r3 = v1 →
            xp_X5_of f_now v3 10 (fun r5 =>
              ((¬ r5 = v2 →
                xp_X5_byFile_7 f_now K n f_refusal v1 v2 (v3 + 1)
              ) ∧ (r5 = v2 →
                K v3 (f_refusal)
              ))
            )
          ))
        )
      ))
    ))
def xp_X5_byFile  (f_now : Nat → Int32) (f_refusal : Int32) (x1 : Int32) (x2 : Int32) (K : Int32 → Int32 → Prop) : Prop :=
  ∃ n9, xp_X5_byFile_7 f_now K n9 0 x1 x2 0
def xp_X5_synced_17  (f_now : Nat → Int32) (K : Int32 → Int32 → Prop)  (f_refusal : Int32) (v1 : Int32) (t0 : Int32) : Prop :=
  xp_X5_refused f_refusal t0 (fun r1 u1 =>
    ((r1 = 0 →
      xp_X5_syncedBy f_now v1 0 (fun r3 =>
        K r3 (u1)
      )
    ) ∧ (¬ r1 = 0 →
      K (0 : Int32) (u1)
    ))
  )
def xp_X5_synced  (f_now : Nat → Int32) (f_refusal : Int32) (x1 : Int32) (K : Int32 → Int32 → Prop) : Prop :=
  xp_X5_isTake f_now x1 (fun r1 =>
    ((r1 = 0 →
      xp_X5_synced_17 f_now K f_refusal x1 1
    ) ∧ (¬ r1 = 0 →
      xp_X5_synced_17 f_now K f_refusal x1 0
    ))
  )
def xp_X5_own_4  (f_p1 : Nat → Int32) (K : Int32 → Prop)  : Nat → Int32 → Int32 → Int32 → Prop
  | 0, _, _, _ => False
  | n + 1, v1, v2, v3 =>
    (((f_p1 0) ≤ v3 →
      K v2
    ) ∧ (¬ (f_p1 0) ≤ v3 →
      xp_X5_of f_p1 v3 8 (fun r2 =>
        ((r2 = (-1 : Int32) →
          xp_X5_own_4 f_p1 K n v1 (v2 + 0) (v3 + 1)
        ) ∧ (¬ r2 = (-1 : Int32) →
          xp_X5_syncedBy f_p1 v3 v1 (fun r4 =>
            ((¬ r4 = v3 →
              xp_X5_own_4 f_p1 K n v1 (v2 + 0) (v3 + 1)
            ) ∧ (r4 = v3 →
              xp_X5_own_4 f_p1 K n v1 (v2 + 1) (v3 + 1)
            ))
          )
        ))
      )
    ))
def xp_X5_own  (f_p1 : Nat → Int32)  (x2 : Int32) (K : Int32 → Prop) : Prop :=
  ∃ n9, xp_X5_own_4 f_p1 K n9 x2 0 0
def xp_X5_bestShift_70  (f_now : Nat → Int32) (K : Int32 → Int32 → Prop) (X18 : Int32 → Int32 → Int32 → Int32 → Prop) (X28 : Int32 → Int32 → Int32 → Int32 → Int32 → Prop) (f_refusal : Int32) (v1 : Int32) (v3 : Int32) (v4 : Int32) (t0 : Int32) : Prop :=
  X28 f_refusal v1 t0 v3 (v4 + (2 * v3))
def xp_X5_bestShift_57  (f_now : Nat → Int32) (K : Int32 → Int32 → Prop) (X18 : Int32 → Int32 → Int32 → Int32 → Prop) (X28 : Int32 → Int32 → Int32 → Int32 → Int32 → Prop) (f_refusal : Int32) (v2 : Int32) (v3 : Int32) (v4 : Int32) (v5 : Int32) (t0 : Int32) : Prop :=
  ((v5 ≤ v2 →
    xp_X5_bestShift_70 f_now K X18 X28 f_refusal t0 v3 v4 v2
  ) ∧ (¬ v5 ≤ v2 →
    xp_X5_bestShift_70 f_now K X18 X28 f_refusal t0 v3 v4 v5
  ))
def xp_X5_bestShift_28  (f_now : Nat → Int32) (K : Int32 → Int32 → Prop) (X18 : Int32 → Int32 → Int32 → Int32 → Prop) : Nat → Int32 → Int32 → Int32 → Int32 → Int32 → Prop
  | 0, _, _, _, _, _ => False
  | n + 1, f_refusal, v1, v2, v3, v4 =>
    ((v3 < v4 →
      X18 f_refusal v1 v2 (v3 + 1)
    ) ∧ (¬ v3 < v4 →
      xp_X5_own f_now v4 (fun r2 =>
        ((r2 ≤ v2 →
          xp_X5_bestShift_57 f_now K X18 (fun f_refusal v1 v2 v3 v4 => xp_X5_bestShift_28 f_now K X18 n f_refusal v1 v2 v3 v4) f_refusal v2 v3 v4 r2 v1
        ) ∧ (¬ r2 ≤ v2 →
          xp_X5_bestShift_57 f_now K X18 (fun f_refusal v1 v2 v3 v4 => xp_X5_bestShift_28 f_now K X18 n f_refusal v1 v2 v3 v4) f_refusal v2 v3 v4 r2 v4
        ))
      )
    ))
def xp_X5_bestShift_18  (f_now : Nat → Int32) (K : Int32 → Int32 → Prop)  : Nat → Int32 → Int32 → Int32 → Int32 → Prop
  | 0, _, _, _, _ => False
  | n + 1, f_refusal, v1, v2, v3 =>
    ((99 < v3 →
      K v1 (f_refusal)
    ) ∧ (¬ 99 < v3 →
      ∃ n9, xp_X5_bestShift_28 f_now K (fun f_refusal v1 v2 v3 => xp_X5_bestShift_18 f_now K n f_refusal v1 v2 v3) n9 f_refusal v1 v2 v3 (-v3)
    ))
def xp_X5_bestShift  (f_now : Nat → Int32) (f_refusal : Int32)  (K : Int32 → Int32 → Prop) : Prop :=
  xp_X5_own f_now 0 (fun r1 =>
    ∃ n9, xp_X5_bestShift_18 f_now K n9 0 0 r1 1
  )
def xp_X5_rolls_74  (f_now : Nat → Int32) (K : Int32 → Int32 → Prop) (X52 : Int32 → Int32 → Int32 → Int32 → Int32 → Int32 → Prop) (f_refusal : Int32) (v1 : Int32) (v2 : Int32) (v3 : Int32) (v4 : Int32) (v5 : Int32) : Prop :=
  ((v1 ≤ v3 →
    X52 f_refusal v1 v2 (v3 - v1) v4 (v5 + 1)
  ) ∧ (¬ v1 ≤ v3 →
    X52 f_refusal v1 v2 (v3 - v3) v4 (v5 + 1)
  ))
def xp_X5_rolls_52  (f_now : Nat → Int32) (K : Int32 → Int32 → Prop)  : Nat → Int32 → Int32 → Int32 → Int32 → Int32 → Int32 → Prop
  | 0, _, _, _, _, _, _ => False
  | n + 1, f_refusal, v1, v2, v3, v4, v5 =>
    ((v2 ≤ v5 →
      K v4 (f_refusal)
    ) ∧ (¬ v2 ≤ v5 →
      ((v1 ≤ v3 →
        xp_X5_rolls_74 f_now K (fun f_refusal v1 v2 v3 v4 v5 => xp_X5_rolls_52 f_now K n f_refusal v1 v2 v3 v4 v5) f_refusal v1 v2 v3 v4 v5
      ) ∧ (¬ v1 ≤ v3 →
        xp_X5_rolls_74 f_now K (fun f_refusal v1 v2 v3 v4 v5 => xp_X5_rolls_52 f_now K n f_refusal v1 v2 v3 v4 v5) f_refusal v1 v2 (f_now 13) (v4 + 1) v5
      ))
    ))
def xp_X5_rolls_30  (f_now : Nat → Int32) (K : Int32 → Int32 → Prop)  (f_refusal : Int32) (v1 : Int32) (v2 : Int32) (t0 : Int32) : Prop :=
  xp_X5_refused f_refusal t0 (fun r1 u1 =>
    ((r1 = 0 →
      xp_X5_left f_now (fun r3 =>
        ∃ n9, xp_X5_rolls_52 f_now K n9 u1 v1 v2 r3 0 0
      )
    ) ∧ (¬ r1 = 0 →
      K (0 : Int32) (u1)
    ))
  )
def xp_X5_rolls  (f_now : Nat → Int32) (f_refusal : Int32) (x1 : Int32) (x2 : Int32) (K : Int32 → Int32 → Prop) : Prop :=
  xp_X5_in x1.toInt64 1 120 (fun r1 =>
    ((r1 = 0 →
      xp_X5_rolls_30 f_now K f_refusal x1 x2 1
    ) ∧ (¬ r1 = 0 →
      xp_X5_in x2.toInt64 1 99 (fun r3 =>
        ((r3 = 0 →
          xp_X5_rolls_30 f_now K f_refusal x1 x2 1
        ) ∧ (¬ r3 = 0 →
          xp_X5_rolls_30 f_now K f_refusal x1 x2 0
        ))
      )
    ))
  )
def xp_X5_ifFalse_64  (f_now : Nat → Int32) (K : Int32 → (Int32 × (Nat → Int32)) → Prop)  : Nat → Int32 → (Nat → Int32) → Int32 → Int32 → Prop
  | 0, _, _, _, _ => False
  | n + 1, f_refusal, f_trial, v2, v3 =>
    (((f_now 0) ≤ v3 →
      K v2 (f_refusal, f_trial)
    ) ∧ (¬ (f_now 0) ≤ v3 →
      xp_X5_isRight f_now v3 (fun r2 =>
        xp_X5_isRight f_trial v3 (fun r3 =>
          ((¬ r2 = r3 →
            xp_X5_ifFalse_64 f_now K n f_refusal f_trial (v2 ||| ((1 : Int32) <<< (v3 &&& 31))) (v3 + 1)
          ) ∧ (r2 = r3 →
            xp_X5_ifFalse_64 f_now K n f_refusal f_trial (v2 ||| 0) (v3 + 1)
          ))
        )
      )
    ))
def xp_X5_ifFalse_17  (f_now : Nat → Int32) (K : Int32 → (Int32 × (Nat → Int32)) → Prop)  (f_refusal : Int32) (f_trial : Nat → Int32) (v1 : Int32) (t0 : Int32) : Prop :=
  xp_X5_refused f_refusal t0 (fun r1 u1 =>
    ((r1 = 0 →
      xp_X5_copyState 377 377 f_now f_trial 0 0 (fun u3 =>
        xp_X5_of f_now v1 14 (fun r4 =>
          xp_X5_lay u3 v1 14 (1 - r4) (fun u5 =>
            ∃ n9, xp_X5_ifFalse_64 f_now K n9 u1 u5 0 0
          )
        )
      )
    ) ∧ (¬ r1 = 0 →
      K (0 : Int32) (u1, f_trial)
    ))
  )
def xp_X5_ifFalse  (f_now : Nat → Int32) (f_refusal : Int32) (f_trial : Nat → Int32) (x1 : Int32) (K : Int32 → (Int32 × (Nat → Int32)) → Prop) : Prop :=
  xp_X5_isTake f_now x1 (fun r1 =>
    ((r1 = 0 →
      xp_X5_ifFalse_17 f_now K f_refusal f_trial x1 1
    ) ∧ (¬ r1 = 0 →
      xp_X5_ifFalse_17 f_now K f_refusal f_trial x1 0
    ))
  )
def xp_X5_scene_162  (f_now : Nat → Int32) (K : Int32 → Int32 → Prop)  : Nat → Int32 → Int32 → Int32 → Int32 → Int32 → Int32 → Int32 → Int32 → Int32 → Int32 → Prop
  | 0, _, _, _, _, _, _, _, _, _, _ => False
  | n + 1, f_refusal, v2, v3, v4, v5, v6, v7, v8, v9, v10 =>
    ((26 ≤ v10 →
      ((¬ v2 = 0 →
        ((¬ v2 = 1 →
          ((¬ v2 = 2 →
            ((¬ v2 = 3 →
              K v9 (f_refusal)
            ) ∧ (v2 = 3 →
              K v5 (f_refusal)
            ))
          ) ∧ (v2 = 2 →
            K v8 (f_refusal)
          ))
        ) ∧ (v2 = 1 →
          K v4 (f_refusal)
        ))
      ) ∧ (v2 = 0 →
        K v3 (f_refusal)
      ))
    ) ∧ (¬ 26 ≤ v10 →
      xp_X5_scene_162 f_now K n f_refusal v2 v3 v4 v5 v6 v7 (v8 + ((v6 >>> (v10 &&& 31)) &&& 1)) (v9 + (((v6 &&& (v7 ^^^ (-1 : Int32))) >>> (v10 &&& 31)) &&& 1)) (v10 + 1)
    ))
def xp_X5_scene_43  (f_now : Nat → Int32) (K : Int32 → Int32 → Prop)  : Nat → Int32 → Int32 → Int32 → Int32 → Int32 → Int32 → Int32 → Int32 → Int32 → Prop
  | 0, _, _, _, _, _, _, _, _, _ => False
  | n + 1, f_refusal, v1, v2, v3, v4, v5, v6, v7, v8 =>
    (((f_now 0) ≤ v8 →
      ∃ n9, xp_X5_scene_162 f_now K n9 f_refusal v2 v3 v4 v5 v6 v7 0 0 0
    ) ∧ (¬ (f_now 0) ≤ v8 →
      xp_X5_of f_now v8 0 (fun r2 =>
        ((¬ r2 = v1 →
          xp_X5_scene_43 f_now K n f_refusal v1 v2 v3 v4 v5 v6 v7 (v8 + 1)
        ) ∧ (r2 = v1 →
          xp_X5_of f_now v8 13 (fun r4 =>
            xp_X5_of f_now v8 7 (fun r5 =>
              xp_X5_of f_now v8 1 (fun r6 =>
                xp_X5_of f_now v8 13 (fun r7 =>
                  xp_X5_of f_now v8 1 (fun r8 =>
                    xp_X5_scene_43 f_now K n f_refusal v1 v2 (v3 + 1) (v4 + r4) (v5 + r5) (v6 ||| ((1 : Int32) <<< (r6 &&& 31))) (v7 ||| (r7 <<< (r8 &&& 31))) (v8 + 1)
                  )
                )
              )
            )
          )
        ))
      )
    ))
def xp_X5_scene_18  (f_now : Nat → Int32) (K : Int32 → Int32 → Prop)  (f_refusal : Int32) (v1 : Int32) (v2 : Int32) (t0 : Int32) : Prop :=
  xp_X5_refused f_refusal t0 (fun r1 u1 =>
    ((r1 = 0 →
      ∃ n9, xp_X5_scene_43 f_now K n9 u1 v1 v2 0 0 0 0 0 0
    ) ∧ (¬ r1 = 0 →
      K (0 : Int32) (u1)
    ))
  )
def xp_X5_scene  (f_now : Nat → Int32) (f_refusal : Int32) (x1 : Int32) (x2 : Int32) (K : Int32 → Int32 → Prop) : Prop :=
  xp_X5_in x2.toInt64 0 4 (fun r1 =>
    ((r1 = 0 →
      xp_X5_scene_18 f_now K f_refusal x1 x2 1
    ) ∧ (¬ r1 = 0 →
      xp_X5_scene_18 f_now K f_refusal x1 x2 0
    ))
  )
def xp_X5_command_124   (K : Int32 → ((Nat → Int32)) → Prop)  (f_p1 : Nat → Int32) (t0 : Int32) (t1 : Int32) : Prop :=
  xp_X5_shootOn f_p1 t1 t0 (fun r1 u1 =>
    ((r1 ≤ 0 →
      K (0 : Int32) (u1)
    ) ∧ (¬ r1 ≤ 0 →
      K (1 : Int32) (u1)
    ))
  )
def xp_X5_command_199   (K : Int32 → ((Nat → Int32)) → Prop)  (f_p1 : Nat → Int32) (t0 : Int32) (t2 : Int32) : Prop :=
  xp_X5_markOn f_p1 t2 14 t0 (fun r1 u1 =>
    ((r1 < 0 →
      K (0 : Int32) (u1)
    ) ∧ (¬ r1 < 0 →
      K (1 : Int32) (u1)
    ))
  )
def xp_X5_command_22   (K : Int32 → ((Nat → Int32)) → Prop)  (f_p1 : Nat → Int32) (v1 : Int32) (v2 : Int32) (v3 : Int32) (v4 : Int32) (t0 : Int32) : Prop :=
  ((v1 = 1 →
    ((2000 ≤ v2 →
      K (0 : Int32) (f_p1)
    ) ∧ (¬ 2000 ≤ v2 →
      xp_X5_in ((v2 - v2 / 1000 * 1000).toInt64) 1 120 (fun r4 =>
        ((r4 = 0 →
          K (0 : Int32) (f_p1)
        ) ∧ (¬ r4 = 0 →
          xp_X5_canShoot f_p1 (fun r6 =>
            ((r6 = 0 →
              K (0 : Int32) (f_p1)
            ) ∧ (¬ r6 = 0 →
              ((v2 < 1000 →
                xp_X5_command_124 K f_p1 0 (v2 - v2 / 1000 * 1000)
              ) ∧ (¬ v2 < 1000 →
                xp_X5_command_124 K f_p1 1 (v2 - v2 / 1000 * 1000)
              ))
            ))
          )
        ))
      )
    ))
  ) ∧ (¬ v1 = 1 →
  ((v1 = 2 →
    ((¬ v3 = 0 →
      K (0 : Int32) (f_p1)
    ) ∧ (v3 = 0 →
      ((t0 = 0 →
        K (0 : Int32) (f_p1)
      ) ∧ (¬ t0 = 0 →
        ((¬ v4 = 1 →
          xp_X5_newCameraOn f_p1 (fun r13 u13 =>
            ((r13 ≤ 0 →
              K (0 : Int32) (u13)
            ) ∧ (¬ r13 ≤ 0 →
              K (1 : Int32) (u13)
            ))
          )
        ) ∧ (v4 = 1 →
          xp_X5_newSoundOn f_p1 (fun r15 u15 =>
            ((r15 ≤ 0 →
              K (0 : Int32) (u15)
            ) ∧ (¬ r15 ≤ 0 →
              K (1 : Int32) (u15)
            ))
          )
        ))
      ))
    ))
  ) ∧ (¬ v1 = 2 →
  ((v1 = 3 →
    ((t0 = 0 →
      K (0 : Int32) (f_p1)
    ) ∧ (¬ t0 = 0 →
      xp_X5_isTake f_p1 v3 (fun r19 =>
        ((r19 = 0 →
          K (0 : Int32) (f_p1)
        ) ∧ (¬ r19 = 0 →
          ((¬ v4 = 1 →
            xp_X5_command_199 K f_p1 0 v3
          ) ∧ (v4 = 1 →
            xp_X5_command_199 K f_p1 1 v3
          ))
        ))
      )
    ))
  ) ∧ (¬ v1 = 3 →
  ((v1 = 4 →
    xp_X5_isSetup v3 v4 (fun r23 =>
      ((r23 = 0 →
        K (0 : Int32) (f_p1)
      ) ∧ (¬ r23 = 0 →
        xp_X5_callOn f_p1 v3 v4 (fun r25 u25 =>
          ((r25 ≤ 0 →
            K (0 : Int32) (u25)
          ) ∧ (¬ r25 ≤ 0 →
            K (1 : Int32) (u25)
          ))
        )
      ))
    )
  ) ∧ (¬ v1 = 4 →
  ((v1 = 5 →
    ((¬ v2 = 0 →
      K (0 : Int32) (f_p1)
    ) ∧ (v2 = 0 →
      xp_X5_rightOn f_p1 (fun r29 u29 =>
        ((r29 ≤ 0 →
          K (0 : Int32) (u29)
        ) ∧ (¬ r29 ≤ 0 →
          K (1 : Int32) (u29)
        ))
      )
    ))
  ) ∧ (¬ v1 = 5 →
  ((v1 = 6 →
    ((t0 = 0 →
      K (0 : Int32) (f_p1)
    ) ∧ (¬ t0 = 0 →
      xp_X5_isTake f_p1 v3 (fun r33 =>
        ((r33 = 0 →
          K (0 : Int32) (f_p1)
        ) ∧ (¬ r33 = 0 →
          xp_X5_isRight f_p1 v3 (fun r35 =>
            ((¬ v4 = 1 →
              ((¬ r35 = 0 →
                K (0 : Int32) (f_p1)
              ) ∧ (r35 = 0 →
                K (1 : Int32) (f_p1)
              ))
            ) ∧ (v4 = 1 →
              ((¬ r35 = 1 →
                K (0 : Int32) (f_p1)
              ) ∧ (r35 = 1 →
                K (1 : Int32) (f_p1)
              ))
            ))
          )
        ))
      )
    ))
  ) ∧ (¬ v1 = 6 →
  ((v1 = 7 →
    ((¬ v3 = 0 →
      K (0 : Int32) (f_p1)
    ) ∧ (v3 = 0 →
      xp_X5_wrong f_p1 (fun r41 =>
        ((v4 < r41 →
          K (0 : Int32) (f_p1)
        ) ∧ (¬ v4 < r41 →
          K (1 : Int32) (f_p1)
        ))
      )
    ))
  ) ∧ (¬ v1 = 7 →
  ((v1 = 8 →
    xp_X5_isTake f_p1 v3 (fun r44 =>
      ((r44 = 0 →
        K (0 : Int32) (f_p1)
      ) ∧ (¬ r44 = 0 →
        xp_X5_isTake f_p1 v4 (fun r46 =>
          ((r46 = 0 →
            K (0 : Int32) (f_p1)
          ) ∧ (¬ r46 = 0 →
            xp_X5_syncedBy f_p1 v3 0 (fun r48 =>
              ((¬ r48 = v4 →
                K (0 : Int32) (f_p1)
              ) ∧ (r48 = v4 →
                K (1 : Int32) (f_p1)
              ))
            )
          ))
        )
      ))
    )
  ) ∧ (¬ v1 = 8 →
  ((v1 = 9 →
    ((1000 ≤ v2 →
      K (0 : Int32) (f_p1)
    ) ∧ (¬ 1000 ≤ v2 →
      xp_X5_left f_p1 (fun r52 =>
        ((r52 < v2 →
          K (0 : Int32) (f_p1)
        ) ∧ (¬ r52 < v2 →
          K (1 : Int32) (f_p1)
        ))
      )
    ))
  ) ∧ (¬ v1 = 9 →
    K (0 : Int32) (f_p1)
  ))))))))))))))))))
def xp_X5_command   (f_p1 : Nat → Int32) (x2 : Int32) (x3 : Int32) (K : Int32 → ((Nat → Int32)) → Prop) : Prop :=
  ((2 ≤ (x3 - x3 / 100 * 100) →
    xp_X5_command_22 K f_p1 x2 x3 (x3 / 100) (x3 - x3 / 100 * 100) 0
  ) ∧ (¬ 2 ≤ (x3 - x3 / 100 * 100) →
    xp_X5_command_22 K f_p1 x2 x3 (x3 / 100) (x3 - x3 / 100 * 100) 1
  ))
def xp_X5_runScript_86  (f_now : Nat → Int32) (K : Int32 → (Int32 × (Nat → Int32)) → Prop)  : Nat → Int32 → (Nat → Int32) → Int32 → Int64 → Int64 → Int32 → Prop
  | 0, _, _, _, _, _, _ => False
  | n + 1, f_refusal, f_trial, v1, v2, v4, v6 =>
    ((v1 ≤ v6 →
      K (-1 : Int32) (f_refusal, f_trial)
    ) ∧ (¬ v1 ≤ v6 →
      (¬ (v4 / 100000) = 0) ∧
      xp_X5_command f_trial ((((v2 / (v4 / 100000)) - (v2 / (v4 / 100000)) / 100000 * 100000).toInt32) / 10000) ((((v2 / (v4 / 100000)) - (v2 / (v4 / 100000)) / 100000 * 100000).toInt32) - (((v2 / (v4 / 100000)) - (v2 / (v4 / 100000)) / 100000 * 100000).toInt32) / 10000 * 10000) (fun r2 u2 =>
        ((¬ r2 = 0 →
          xp_X5_runScript_86 f_now K n f_refusal u2 v1 v2 (v4 / 100000) (v6 + 1)
        ) ∧ (r2 = 0 →
          K v6 (f_refusal, u2)
        ))
      )
    ))
def xp_X5_runScript_62  (f_now : Nat → Int32) (K : Int32 → (Int32 × (Nat → Int32)) → Prop)  (f_refusal : Int32) (f_trial : Nat → Int32) (v1 : Int32) (v2 : Int64) (v4 : Int64) (t0 : Int32) : Prop :=
  xp_X5_refused f_refusal t0 (fun r1 u1 =>
    ((r1 = 0 →
      xp_X5_copyState 377 377 f_now f_trial 0 0 (fun u3 =>
        ∃ n9, xp_X5_runScript_86 f_now K n9 u1 u3 v1 v2 v4 0
      )
    ) ∧ (¬ r1 = 0 →
      K (0 : Int32) (u1, f_trial)
    ))
  )
def xp_X5_runScript_32  (f_now : Nat → Int32) (K : Int32 → (Int32 × (Nat → Int32)) → Prop)  (f_refusal : Int32) (f_trial : Nat → Int32) (v1 : Int32) (v2 : Int64) (v4 : Int64) : Prop :=
  xp_X5_in v1.toInt64 1 3 (fun r1 =>
    ((r1 = 0 →
      xp_X5_runScript_62 f_now K f_refusal f_trial v1 v2 v4 1
    ) ∧ (¬ r1 = 0 →
      xp_X5_in v2 0 (v4 - 1) (fun r3 =>
        ((r3 = 0 →
          xp_X5_runScript_62 f_now K f_refusal f_trial v1 v2 v4 1
        ) ∧ (¬ r3 = 0 →
          xp_X5_runScript_62 f_now K f_refusal f_trial v1 v2 v4 0
        ))
      )
    ))
  )
def xp_X5_runScript_6  (f_now : Nat → Int32) (K : Int32 → (Int32 × (Nat → Int32)) → Prop)  : Nat → Int32 → (Nat → Int32) → Int32 → Int64 → Int64 → Int32 → Prop
  | 0, _, _, _, _, _, _ => False
  | n + 1, f_refusal, f_trial, v1, v2, v4, v6 =>
    ((v1 ≤ v6 →
      xp_X5_runScript_32 f_now K f_refusal f_trial v1 v2 v4
    ) ∧ (¬ v1 ≤ v6 →
      ((3 ≤ v6 →
        xp_X5_runScript_32 f_now K f_refusal f_trial v1 v2 v4
      ) ∧ (¬ 3 ≤ v6 →
        xp_X5_runScript_6 f_now K n f_refusal f_trial v1 v2 (v4 * 100000) (v6 + 1)
      ))
    ))
def xp_X5_runScript  (f_now : Nat → Int32) (f_refusal : Int32) (f_trial : Nat → Int32) (x1 : Int32) (x2 : Int64) (K : Int32 → (Int32 × (Nat → Int32)) → Prop) : Prop :=
  ∃ n9, xp_X5_runScript_6 f_now K n9 f_refusal f_trial x1 x2 1 0
def xp_X5_turn_160   (K : ((Nat → Int32)) → Prop)  (f_p1 : Nat → Int32) (t0 : Int32) (t1 : Int32) : Prop :=
  xp_X5_markOn f_p1 t1 t0 1 (fun r1 u1 =>
    K (u1)
  )
def xp_X5_turn_228   (K : ((Nat → Int32)) → Prop)  (f_p1 : Nat → Int32) (t0 : Int32) (t1 : Int32) : Prop :=
  xp_X5_shootOn f_p1 t1 t0 (fun r1 u1 =>
    K (u1)
  )
def xp_X5_turn   (f_p1 : Nat → Int32) (x2 : Int32) (K : ((Nat → Int32)) → Prop) : Prop :=
  (((x2 - x2 / 16 * 16) = 0 →
    xp_X5_callOn f_p1 (1 + ((x2 / 16) - (x2 / 16) / 4 * 4)) ((x2 / 64) - (x2 / 64) / 3 * 3) (fun r3 u3 =>
      K (u3)
    )
  ) ∧ (¬ (x2 - x2 / 16 * 16) = 0 →
  (((x2 - x2 / 16 * 16) = 1 →
    xp_X5_rightOn f_p1 (fun r5 u5 =>
      K (u5)
    )
  ) ∧ (¬ (x2 - x2 / 16 * 16) = 1 →
  (((x2 - x2 / 16 * 16) = 2 →
    xp_X5_boardOn f_p1 (1 + ((x2 / 16) - (x2 / 16) / 4 * 4)) ((x2 / 64) - (x2 / 64) / 3 * 3) (1 + ((x2 / 256) - (x2 / 256) / 5 * 5)) (fun r7 u7 =>
      K (u7)
    )
  ) ∧ (¬ (x2 - x2 / 16 * 16) = 2 →
  (((x2 - x2 / 16 * 16) = 3 →
    xp_X5_newCameraOn f_p1 (fun r9 u9 =>
      K (u9)
    )
  ) ∧ (¬ (x2 - x2 / 16 * 16) = 3 →
  (((x2 - x2 / 16 * 16) = 4 →
    xp_X5_newSoundOn f_p1 (fun r11 u11 =>
      K (u11)
    )
  ) ∧ (¬ (x2 - x2 / 16 * 16) = 4 →
  (((x2 - x2 / 16 * 16) = 5 →
    xp_X5_isTake f_p1 ((x2 / 16) - (x2 / 16) / 24 * 24) (fun r13 =>
      ((r13 = 0 →
        K (f_p1)
      ) ∧ (¬ r13 = 0 →
        ((¬ (x2 - x2 / 16 * 16) = 5 →
          xp_X5_turn_160 K f_p1 13 ((x2 / 16) - (x2 / 16) / 24 * 24)
        ) ∧ ((x2 - x2 / 16 * 16) = 5 →
          xp_X5_turn_160 K f_p1 14 ((x2 / 16) - (x2 / 16) / 24 * 24)
        ))
      ))
    )
  ) ∧ (¬ (x2 - x2 / 16 * 16) = 5 →
  (((x2 - x2 / 16 * 16) = 6 →
    xp_X5_isTake f_p1 ((x2 / 16) - (x2 / 16) / 24 * 24) (fun r17 =>
      ((r17 = 0 →
        K (f_p1)
      ) ∧ (¬ r17 = 0 →
        ((¬ (x2 - x2 / 16 * 16) = 5 →
          xp_X5_turn_160 K f_p1 13 ((x2 / 16) - (x2 / 16) / 24 * 24)
        ) ∧ ((x2 - x2 / 16 * 16) = 5 →
          xp_X5_turn_160 K f_p1 14 ((x2 / 16) - (x2 / 16) / 24 * 24)
        ))
      ))
    )
  ) ∧ (¬ (x2 - x2 / 16 * 16) = 6 →
  (((x2 - x2 / 16 * 16) = 7 →
    K (upd f_p1 11 (((x2 / 16) - (x2 / 16) / 199 * 199) - 99))
  ) ∧ (¬ (x2 - x2 / 16 * 16) = 7 →
  (((x2 - x2 / 16 * 16) = 8 →
    xp_X5_isTake f_p1 ((x2 / 16) - (x2 / 16) / 24 * 24) (fun r22 =>
      ((r22 = 0 →
        K (f_p1)
      ) ∧ (¬ r22 = 0 →
        xp_X5_fixOn f_p1 ((x2 / 16) - (x2 / 16) / 24 * 24) (fun r24 u24 =>
          K (u24)
        )
      ))
    )
  ) ∧ (¬ (x2 - x2 / 16 * 16) = 8 →
    xp_X5_canShoot f_p1 (fun r25 =>
      ((r25 = 0 →
        K (f_p1)
      ) ∧ (¬ r25 = 0 →
        ((¬ ((x2 / 16) - (x2 / 16) / 2 * 2) = 0 →
          xp_X5_turn_228 K f_p1 0 (1 + ((x2 / 32) - (x2 / 32) / 120 * 120))
        ) ∧ (((x2 / 16) - (x2 / 16) / 2 * 2) = 0 →
          xp_X5_turn_228 K f_p1 1 (1 + ((x2 / 32) - (x2 / 32) / 120 * 120))
        ))
      ))
    )
  ))))))))))))))))))
def xp_X5_simulate_45  (f_now : Nat → Int32) (K : Int32 → (Int32 × (Nat → Int32)) → Prop)  : Nat → Int32 → (Nat → Int32) → Int32 → Int64 → Int32 → Prop
  | 0, _, _, _, _, _ => False
  | n + 1, f_refusal, f_trial, v3, v4, v6 =>
    ((v3 ≤ v6 →
      xp_X5_wrong f_trial (fun r2 =>
        xp_X5_astray f_trial (fun r3 =>
          K ((1000 * r2) + r3) (f_refusal, f_trial)
        )
      )
    ) ∧ (¬ v3 ≤ v6 →
      xp_X5_turn f_trial (((((v4 * 6364136223846793005) + 1442695040888963407).toUInt64 >>> ((33 : Int32).toInt64.toUInt64 &&& Int64.toUInt64 63)).toInt64).toInt32) (fun u4 =>
        xp_X5_simulate_45 f_now K n f_refusal u4 v3 ((v4 * 6364136223846793005) + 1442695040888963407) (v6 + 1)
      )
    ))
def xp_X5_simulate_18  (f_now : Nat → Int32) (K : Int32 → (Int32 × (Nat → Int32)) → Prop)  (f_refusal : Int32) (f_trial : Nat → Int32) (v1 : Int64) (v3 : Int32) (t0 : Int32) : Prop :=
  xp_X5_refused f_refusal t0 (fun r1 u1 =>
    ((r1 = 0 →
      xp_X5_copyState 377 377 f_now f_trial 0 0 (fun u3 =>
        ∃ n9, xp_X5_simulate_45 f_now K n9 u1 u3 v3 v1 0
      )
    ) ∧ (¬ r1 = 0 →
      K (0 : Int32) (u1, f_trial)
    ))
  )
def xp_X5_simulate  (f_now : Nat → Int32) (f_refusal : Int32) (f_trial : Nat → Int32) (x1 : Int64) (x2 : Int32) (K : Int32 → (Int32 × (Nat → Int32)) → Prop) : Prop :=
  xp_X5_in x2.toInt64 1 80 (fun r1 =>
    ((r1 = 0 →
      xp_X5_simulate_18 f_now K f_refusal f_trial x1 x2 1
    ) ∧ (¬ r1 = 0 →
      xp_X5_simulate_18 f_now K f_refusal f_trial x1 x2 0
    ))
  )
def xp_X5_save_16  (f_now : Nat → Int32) (K : Int32 → (Int32 × (Nat → Int32) × (Nat → Int32)) → Prop)  (f_refusal : Int32) (f_kept : Nat → Int32) (f_isKept : Nat → Int32) (v1 : Int32) (t0 : Int32) : Prop :=
  xp_X5_refused f_refusal t0 (fun r1 u1 =>
    ((r1 = 0 →
      xp_X5_copyState 377 754 f_now f_kept 0 (377 * v1) (fun u3 =>
        (vp_in v1 2) ∧
        K (f_now 0) (u1, u3, upd f_isKept v1.toNatClampNeg (vp_nar .boolean 1))
      )
    ) ∧ (¬ r1 = 0 →
      K (0 : Int32) (u1, f_kept, f_isKept)
    ))
  )
def xp_X5_save  (f_now : Nat → Int32) (f_refusal : Int32) (f_kept : Nat → Int32) (f_isKept : Nat → Int32) (x1 : Int32) (K : Int32 → (Int32 × (Nat → Int32) × (Nat → Int32)) → Prop) : Prop :=
  xp_X5_in x1.toInt64 0 1 (fun r1 =>
    ((r1 = 0 →
      xp_X5_save_16 f_now K f_refusal f_kept f_isKept x1 1
    ) ∧ (¬ r1 = 0 →
      xp_X5_save_16 f_now K f_refusal f_kept f_isKept x1 0
    ))
  )
def xp_X5_restore_29  (f_kept : Nat → Int32) (f_isKept : Nat → Int32) (K : Int32 → (Int32 × (Nat → Int32) × Int32) → Prop)  (f_refusal : Int32) (f_now : Nat → Int32) (f_acts : Int32) (v1 : Int32) (t0 : Int32) : Prop :=
  xp_X5_refused f_refusal t0 (fun r1 u1 =>
    ((r1 = 0 →
      xp_X5_copyState 754 377 f_kept f_now (377 * v1) 0 (fun u3 =>
        K (u3 0) (u1, u3, 0)
      )
    ) ∧ (¬ r1 = 0 →
      K (0 : Int32) (u1, f_now, f_acts)
    ))
  )
def xp_X5_restore  (f_kept : Nat → Int32) (f_isKept : Nat → Int32) (f_refusal : Int32) (f_now : Nat → Int32) (f_acts : Int32) (x1 : Int32) (K : Int32 → (Int32 × (Nat → Int32) × Int32) → Prop) : Prop :=
  xp_X5_in x1.toInt64 0 1 (fun r1 =>
    ((¬ r1 = 0 →
      (vp_in x1 2) ∧
      ((¬ (f_isKept x1.toNatClampNeg) = 0 →
        xp_X5_restore_29 f_kept f_isKept K f_refusal f_now f_acts x1 0
      ) ∧ ((f_isKept x1.toNatClampNeg) = 0 →
        xp_X5_restore_29 f_kept f_isKept K f_refusal f_now f_acts x1 2
      ))
    ) ∧ (r1 = 0 →
      xp_X5_restore_29 f_kept f_isKept K f_refusal f_now f_acts x1 1
    ))
  )
