def xp_X4_append_11   (K : Int32 → ((Nat → Int32) × Int32) → Prop) (KX : String → ((Nat → Int32) × Int32) → Prop)  (f_text_signs : Nat → Int32) (f_text_length : Int32) : Prop :=
  KX xIA (f_text_signs, f_text_length)
def xp_X4_append   (f_text_signs : Nat → Int32) (f_text_length : Int32) (x1 : Int32) (K : Int32 → ((Nat → Int32) × Int32) → Prop) (KX : String → ((Nat → Int32) × Int32) → Prop) : Prop :=
  ((x1 < 0 →
    xp_X4_append_11 K KX f_text_signs f_text_length
  ) ∧ (¬ x1 < 0 →
    ((x1 ≤ 255 →
      xp_X0_isFull f_text_length (fun r3 =>
        ((r3 = 0 →
          xp_X0_add f_text_signs f_text_length ((x1.toUInt32 % 65536).toInt32) (fun r5 u5 =>
            K r5 (u5.1, u5.2)
          )
        ) ∧ (¬ r3 = 0 →
          KX xIS (f_text_signs, f_text_length)
        ))
      )
    ) ∧ (¬ x1 ≤ 255 →
      xp_X4_append_11 K KX f_text_signs f_text_length
    ))
  ))
def xp_X4_load  (f_text_signs : Nat → Int32) (f_text_length : Int32) (f_now_cells : Nat → Int32) (f_saved : Nat → Int32) (f_text_at : Int32) (f_text_command : Int32) (f_text_scene : Int32) (f_text_letter : Int32) (f_text_number : Int32) (f_remembered : Int32) (f_oldest : Int32)  (K : Int32 → ((Nat → Int32) × (Nat → Int32) × Int32 × Int32 × Int32 × Int32 × Int32 × Int32 × Int32) → Prop) (KX : String → ((Nat → Int32) × (Nat → Int32) × Int32 × Int32 × Int32 × Int32 × Int32 × Int32 × Int32) → Prop) : Prop :=
  xp_X0_firstError f_text_signs f_text_length f_text_at f_text_command f_text_scene f_text_letter f_text_number (fun r1 u1 =>
    ((r1 = (-1 : Int32) →
      xp_X3_reset f_now_cells (fun u3 =>
        xp_X4_forget f_remembered f_oldest (fun u4 =>
          xp_X4_obeyText f_text_signs f_text_length u3 u1.1 u1.2.1 u1.2.2.1 u1.2.2.2.1 u1.2.2.2.2 (fun r5 u5 =>
            K r5 (u5.1, upd (upd f_saved 0 (vp_nar .boolean 0)) 1 (vp_nar .boolean 0), u5.2.1, u5.2.2.1, u5.2.2.2.1, u5.2.2.2.2.1, u5.2.2.2.2.2, u4.1, u4.2)
          )
        )
      )
    ) ∧ (¬ r1 = (-1 : Int32) →
      KX xIS (f_now_cells, f_saved, u1.1, u1.2.1, u1.2.2.1, u1.2.2.2.1, u1.2.2.2.2, f_remembered, f_oldest)
    ))
  )
def xp_X4_about_10  (f_now_cells : Nat → Int32) (K : Int32 → Prop) (KX : String → Prop)   : Prop :=
  KX xIA
def xp_X4_about  (f_now_cells : Nat → Int32)  (x1 : Int32) (K : Int32 → Prop) (KX : String → Prop) : Prop :=
  ((x1 < 0 →
    xp_X4_about_10 f_now_cells K KX 
  ) ∧ (¬ x1 < 0 →
    ((x1 ≤ 16 →
      xp_X3_total f_now_cells x1 (fun r3 =>
        K r3
      )
    ) ∧ (¬ x1 ≤ 16 →
      xp_X4_about_10 f_now_cells K KX 
    ))
  ))
def xp_X4_take_31  (f_now_cells : Nat → Int32) (K : Int32 → Prop) (KX : String → Prop)   : Prop :=
  KX xIA
def xp_X4_take  (f_now_cells : Nat → Int32)  (x1 : Int32) (x2 : Int32) (K : Int32 → Prop) (KX : String → Prop) : Prop :=
  xp_X3_hasTake f_now_cells x1 (fun r1 =>
    ((¬ r1 = 0 →
      ((x2 < 0 →
        xp_X4_take_31 f_now_cells K KX 
      ) ∧ (¬ x2 < 0 →
        ((x2 ≤ 16 →
          xp_X3_told f_now_cells x1 x2 (fun r5 =>
            K r5
          )
        ) ∧ (¬ x2 ≤ 16 →
          xp_X4_take_31 f_now_cells K KX 
        ))
      ))
    ) ∧ (r1 = 0 →
      KX xIO
    ))
  )
def xp_X4_line  (f_now_cells : Nat → Int32) (f_shown_signs : Nat → Int32) (f_shown_length : Int32) (x1 : Int32) (x2 : Int32) (K : Int32 → ((Nat → Int32) × Int32) → Prop) (KX : String → ((Nat → Int32) × Int32) → Prop) : Prop :=
  xp_X3_hasTake f_now_cells x1 (fun r1 =>
    ((¬ r1 = 0 →
      ((0 ≤ x2 →
        xp_X1_write f_now_cells f_shown_signs f_shown_length x1 (fun u4 =>
          xp_X1_signAt u4.1 u4.2 x2 (fun r5 =>
            K r5 (u4.1, u4.2)
          )
        )
      ) ∧ (¬ 0 ≤ x2 →
        KX xIA (f_shown_signs, f_shown_length)
      ))
    ) ∧ (r1 = 0 →
      KX xIO (f_shown_signs, f_shown_length)
    ))
  )
def xp_X4_setting_9  (f_now_cells : Nat → Int32) (K : Int32 → Prop) (KX : String → Prop)   : Prop :=
  KX xIA
def xp_X4_setting  (f_now_cells : Nat → Int32)  (x1 : Int32) (K : Int32 → Prop) (KX : String → Prop) : Prop :=
  ((x1 < 0 →
    xp_X4_setting_9 f_now_cells K KX 
  ) ∧ (¬ x1 < 0 →
    ((x1 ≤ 3 →
      xp_X3_chosen f_now_cells x1 (fun r3 =>
        K r3
      )
    ) ∧ (¬ x1 ≤ 3 →
      xp_X4_setting_9 f_now_cells K KX 
    ))
  ))
def xp_X4_call   (f_now_cells : Nat → Int32) (f_past_cells : Nat → Int32) (f_remembered : Int32) (f_oldest : Int32) (x1 : Int32) (x2 : Int32) (K : Int32 → ((Nat → Int32) × (Nat → Int32) × Int32 × Int32) → Prop) (KX : String → ((Nat → Int32) × (Nat → Int32) × Int32 × Int32) → Prop) : Prop :=
  xp_X4_isSetup x1 x2 (fun r1 =>
    ((¬ r1 = 0 →
      xp_X4_remember f_now_cells f_past_cells f_remembered f_oldest (fun u3 =>
        xp_X3_mean f_now_cells x1 x2 (fun r4 u4 =>
          xp_X3_nextNumber u4 (fun r5 =>
            K r5 (u4, u3.1, u3.2.1, u3.2.2)
          )
        )
      )
    ) ∧ (r1 = 0 →
      KX xIA (f_now_cells, f_past_cells, f_remembered, f_oldest)
    ))
  )
def xp_X4_board_19   (K : Int32 → ((Nat → Int32) × (Nat → Int32) × Int32 × Int32) → Prop) (KX : String → ((Nat → Int32) × (Nat → Int32) × Int32 × Int32) → Prop)  (f_now_cells : Nat → Int32) (f_past_cells : Nat → Int32) (f_remembered : Int32) (f_oldest : Int32) : Prop :=
  KX xIA (f_now_cells, f_past_cells, f_remembered, f_oldest)
def xp_X4_board   (f_now_cells : Nat → Int32) (f_past_cells : Nat → Int32) (f_remembered : Int32) (f_oldest : Int32) (x1 : Int32) (x2 : Int32) (x3 : Int32) (K : Int32 → ((Nat → Int32) × (Nat → Int32) × Int32 × Int32) → Prop) (KX : String → ((Nat → Int32) × (Nat → Int32) × Int32 × Int32) → Prop) : Prop :=
  xp_X4_isSetup x1 x2 (fun r1 =>
    ((r1 = 0 →
      xp_X4_board_19 K KX f_now_cells f_past_cells f_remembered f_oldest
    ) ∧ (¬ r1 = 0 →
      ((x3 < 1 →
        xp_X4_board_19 K KX f_now_cells f_past_cells f_remembered f_oldest
      ) ∧ (¬ x3 < 1 →
        ((x3 ≤ 99 →
          xp_X4_remember f_now_cells f_past_cells f_remembered f_oldest (fun u5 =>
            xp_X3_write f_now_cells x1 x2 x3 (fun u6 =>
              xp_X3_boardIsRight u6 (fun r7 =>
                ((r7 = 0 →
                  K (0 : Int32) (u6, u5.1, u5.2.1, u5.2.2)
                ) ∧ (¬ r7 = 0 →
                  K (1 : Int32) (u6, u5.1, u5.2.1, u5.2.2)
                ))
              )
            )
          )
        ) ∧ (¬ x3 ≤ 99 →
          xp_X4_board_19 K KX f_now_cells f_past_cells f_remembered f_oldest
        ))
      ))
    ))
  )
def xp_X4_shoot   (f_now_cells : Nat → Int32) (f_past_cells : Nat → Int32) (f_remembered : Int32) (f_oldest : Int32) (x1 : Int32) (x2 : Int32) (K : Int32 → ((Nat → Int32) × (Nat → Int32) × Int32 × Int32) → Prop) (KX : String → ((Nat → Int32) × (Nat → Int32) × Int32 × Int32) → Prop) : Prop :=
  xp_X4_isLength x1 (fun r1 =>
    ((¬ r1 = 0 →
      xp_X3_canFilm f_now_cells (fun r3 =>
        ((¬ r3 = 0 →
          xp_X4_remember f_now_cells f_past_cells f_remembered f_oldest (fun u5 =>
            xp_X3_film f_now_cells x1 x2 (fun r6 u6 =>
              K r6 (u6, u5.1, u5.2.1, u5.2.2)
            )
          )
        ) ∧ (r3 = 0 →
          KX xIS (f_now_cells, f_past_cells, f_remembered, f_oldest)
        ))
      )
    ) ∧ (r1 = 0 →
      KX xIA (f_now_cells, f_past_cells, f_remembered, f_oldest)
    ))
  )
def xp_X4_circle   (f_now_cells : Nat → Int32) (f_past_cells : Nat → Int32) (f_remembered : Int32) (f_oldest : Int32) (x1 : Int32) (x2 : Int32) (K : Int32 → ((Nat → Int32) × (Nat → Int32) × Int32 × Int32) → Prop) (KX : String → ((Nat → Int32) × (Nat → Int32) × Int32 × Int32) → Prop) : Prop :=
  xp_X3_hasTake f_now_cells x1 (fun r1 =>
    ((¬ r1 = 0 →
      xp_X4_remember f_now_cells f_past_cells f_remembered f_oldest (fun u3 =>
        xp_X3_mark f_now_cells x1 14 x2 (fun r4 u4 =>
          xp_X3_marked u4 14 (fun r5 =>
            K r5 (u4, u3.1, u3.2.1, u3.2.2)
          )
        )
      )
    ) ∧ (r1 = 0 →
      KX xIO (f_now_cells, f_past_cells, f_remembered, f_oldest)
    ))
  )
def xp_X4_falseStart   (f_now_cells : Nat → Int32) (f_past_cells : Nat → Int32) (f_remembered : Int32) (f_oldest : Int32) (x1 : Int32) (x2 : Int32) (K : Int32 → ((Nat → Int32) × (Nat → Int32) × Int32 × Int32) → Prop) (KX : String → ((Nat → Int32) × (Nat → Int32) × Int32 × Int32) → Prop) : Prop :=
  xp_X3_hasTake f_now_cells x1 (fun r1 =>
    ((¬ r1 = 0 →
      xp_X4_remember f_now_cells f_past_cells f_remembered f_oldest (fun u3 =>
        xp_X3_mark f_now_cells x1 15 x2 (fun r4 u4 =>
          xp_X3_wrongSlates u4 (fun r5 =>
            K r5 (u4, u3.1, u3.2.1, u3.2.2)
          )
        )
      )
    ) ∧ (r1 = 0 →
      KX xIO (f_now_cells, f_past_cells, f_remembered, f_oldest)
    ))
  )
def xp_X4_fix   (f_now_cells : Nat → Int32) (f_past_cells : Nat → Int32) (f_remembered : Int32) (f_oldest : Int32) (x1 : Int32) (K : Int32 → ((Nat → Int32) × (Nat → Int32) × Int32 × Int32) → Prop) (KX : String → ((Nat → Int32) × (Nat → Int32) × Int32 × Int32) → Prop) : Prop :=
  xp_X3_hasTake f_now_cells x1 (fun r1 =>
    ((¬ r1 = 0 →
      xp_X4_remember f_now_cells f_past_cells f_remembered f_oldest (fun u3 =>
        xp_X3_putRight f_now_cells x1 (fun r4 u4 =>
          ((r4 = 0 →
            K (0 : Int32) (u4, u3.1, u3.2.1, u3.2.2)
          ) ∧ (¬ r4 = 0 →
            K (1 : Int32) (u4, u3.1, u3.2.1, u3.2.2)
          ))
        )
      )
    ) ∧ (r1 = 0 →
      KX xIO (f_now_cells, f_past_cells, f_remembered, f_oldest)
    ))
  )
def xp_X4_off_12   (K : Int32 → ((Nat → Int32) × (Nat → Int32) × Int32 × Int32) → Prop) (KX : String → ((Nat → Int32) × (Nat → Int32) × Int32 × Int32) → Prop)  (f_now_cells : Nat → Int32) (f_past_cells : Nat → Int32) (f_remembered : Int32) (f_oldest : Int32) : Prop :=
  KX xIA (f_now_cells, f_past_cells, f_remembered, f_oldest)
def xp_X4_off   (f_now_cells : Nat → Int32) (f_past_cells : Nat → Int32) (f_remembered : Int32) (f_oldest : Int32) (x1 : Int32) (K : Int32 → ((Nat → Int32) × (Nat → Int32) × Int32 × Int32) → Prop) (KX : String → ((Nat → Int32) × (Nat → Int32) × Int32 × Int32) → Prop) : Prop :=
  ((x1 < (-99 : Int32) →
    xp_X4_off_12 K KX f_now_cells f_past_cells f_remembered f_oldest
  ) ∧ (¬ x1 < (-99 : Int32) →
    ((x1 ≤ 99 →
      xp_X4_remember f_now_cells f_past_cells f_remembered f_oldest (fun u3 =>
        xp_X3_setOff f_now_cells x1 (fun r4 u4 =>
          K r4 (u4, u3.1, u3.2.1, u3.2.2)
        )
      )
    ) ∧ (¬ x1 ≤ 99 →
      xp_X4_off_12 K KX f_now_cells f_past_cells f_remembered f_oldest
    ))
  ))
def xp_X4_isSetting    (x1 : Int32) (x2 : Int32) (K : Int32 → Prop) : Prop :=
  ((x1 < 0 →
    K (0 : Int32)
  ) ∧ (¬ x1 < 0 →
    ((3 < x1 →
      K (0 : Int32)
    ) ∧ (¬ 3 < x1 →
      (vp_in x1 4) ∧
      ((x2 < (xLow x1.toNatClampNeg) →
        K (0 : Int32)
      ) ∧ (¬ x2 < (xLow x1.toNatClampNeg) →
        (vp_in x1 4) ∧
        (((xHigh x1.toNatClampNeg) < x2 →
          K (0 : Int32)
        ) ∧ (¬ (xHigh x1.toNatClampNeg) < x2 →
          K (1 : Int32)
        ))
      ))
    ))
  ))
def xp_X4_set   (f_now_cells : Nat → Int32) (f_past_cells : Nat → Int32) (f_remembered : Int32) (f_oldest : Int32) (x1 : Int32) (x2 : Int32) (K : Int32 → ((Nat → Int32) × (Nat → Int32) × Int32 × Int32) → Prop) (KX : String → ((Nat → Int32) × (Nat → Int32) × Int32 × Int32) → Prop) : Prop :=
  xp_X4_isSetting x1 x2 (fun r1 =>
    ((¬ r1 = 0 →
      xp_X4_remember f_now_cells f_past_cells f_remembered f_oldest (fun u3 =>
        xp_X3_choose f_now_cells x1 x2 (fun r4 u4 =>
          K r4 (u4, u3.1, u3.2.1, u3.2.2)
        )
      )
    ) ∧ (r1 = 0 →
      KX xIA (f_now_cells, f_past_cells, f_remembered, f_oldest)
    ))
  )
def xp_X4_undo  (f_past_cells : Nat → Int32) (f_oldest : Int32) (f_now_cells : Nat → Int32) (f_remembered : Int32)  (K : Int32 → ((Nat → Int32) × Int32) → Prop) (KX : String → ((Nat → Int32) × Int32) → Prop) : Prop :=
  ((¬ f_remembered = 0 →
    xp_X2_fetch 5600 f_past_cells 14 f_now_cells ((f_oldest + (f_remembered - 1)) - (f_oldest + (f_remembered - 1)) / 14 * 14) (fun u2 =>
      K (f_remembered - 1) (u2, f_remembered - 1)
    )
  ) ∧ (f_remembered = 0 →
    KX xIS (f_now_cells, f_remembered)
  ))
def xp_X4_synced  (f_now_cells : Nat → Int32)  (x1 : Int32) (K : Int32 → Prop) (KX : String → Prop) : Prop :=
  xp_X3_hasTake f_now_cells x1 (fun r1 =>
    ((¬ r1 = 0 →
      xp_X3_soundFor f_now_cells x1 0 (fun r3 =>
        K r3
      )
    ) ∧ (r1 = 0 →
      KX xIO
    ))
  )
def xp_X4_rolls_18  (f_now_cells : Nat → Int32) (K : Int32 → Prop) (KX : String → Prop)   : Prop :=
  KX xIA
def xp_X4_rolls_67  (f_now_cells : Nat → Int32) (K : Int32 → Prop) (KX : String → Prop) (X42 : Int32 → Int32 → Int32 → Int32 → Int32 → Prop) (v1 : Int32) (v2 : Int32) (v3 : Int32) (v4 : Int32) (v5 : Int32) : Prop :=
  X42 v1 v2 v3 (v4 - (if v4 < v1 then v4 else v1)) (v5 + 1)
def xp_X4_rolls_42  (f_now_cells : Nat → Int32) (K : Int32 → Prop) (KX : String → Prop)  : Nat → Int32 → Int32 → Int32 → Int32 → Int32 → Prop
  | 0, _, _, _, _, _ => False
  | n + 1, v1, v2, v3, v4, v5 =>
    ((v2 ≤ v5 →
      K v3
    ) ∧ (¬ v2 ≤ v5 →
      ((v1 ≤ v4 →
        xp_X4_rolls_67 f_now_cells K KX (fun v1 v2 v3 v4 v5 => xp_X4_rolls_42 f_now_cells K KX n v1 v2 v3 v4 v5) v1 v2 v3 v4 v5
      ) ∧ (¬ v1 ≤ v4 →
        xp_X3_chosen f_now_cells 0 (fun r3 =>
          xp_X4_rolls_67 f_now_cells K KX (fun v1 v2 v3 v4 v5 => xp_X4_rolls_42 f_now_cells K KX n v1 v2 v3 v4 v5) v1 v2 (v3 + 1) r3 v5
        )
      ))
    ))
def xp_X4_rolls  (f_now_cells : Nat → Int32)  (x1 : Int32) (x2 : Int32) (K : Int32 → Prop) (KX : String → Prop) : Prop :=
  xp_X4_isLength x1 (fun r1 =>
    ((r1 = 0 →
      xp_X4_rolls_18 f_now_cells K KX 
    ) ∧ (¬ r1 = 0 →
      ((x2 < 1 →
        xp_X4_rolls_18 f_now_cells K KX 
      ) ∧ (¬ x2 < 1 →
        ((x2 ≤ 99 →
          xp_X3_cameraLeft f_now_cells (fun r5 =>
            ∃ n9, xp_X4_rolls_42 f_now_cells K KX n9 x1 x2 0 r5 0
          )
        ) ∧ (¬ x2 ≤ 99 →
          xp_X4_rolls_18 f_now_cells K KX 
        ))
      ))
    ))
  )
def xp_X4_ifFalse_57  (f_now_cells : Nat → Int32) (K : Int32 → ((Nat → Int32)) → Prop) (KX : String → ((Nat → Int32)) → Prop)  (f_copy_cells : Nat → Int32) (t0 : Int32) (t2 : Int32) : Prop :=
  xp_X3_mark f_copy_cells t2 15 t0 (fun r1 u1 =>
    xp_X3_wrongSet f_now_cells (fun r2 =>
      xp_X3_wrongSet u1 (fun r3 =>
        K (r2 ^^^ r3) (u1)
      )
    )
  )
def xp_X4_ifFalse  (f_now_cells : Nat → Int32) (f_copy_cells : Nat → Int32) (x1 : Int32) (K : Int32 → ((Nat → Int32)) → Prop) (KX : String → ((Nat → Int32)) → Prop) : Prop :=
  xp_X3_hasTake f_now_cells x1 (fun r1 =>
    ((¬ r1 = 0 →
      xp_X3_copyFrom f_now_cells f_copy_cells (fun u3 =>
        xp_X3_of f_now_cells x1 15 (fun r4 =>
          ((¬ r4 = 0 →
            xp_X4_ifFalse_57 f_now_cells K KX u3 0 x1
          ) ∧ (r4 = 0 →
            xp_X4_ifFalse_57 f_now_cells K KX u3 1 x1
          ))
        )
      )
    ) ∧ (r1 = 0 →
      KX xIO (f_copy_cells)
    ))
  )
def xp_X4_scene_9  (f_now_cells : Nat → Int32) (K : Int32 → Prop) (KX : String → Prop)   : Prop :=
  KX xIA
def xp_X4_scene  (f_now_cells : Nat → Int32)  (x1 : Int32) (x2 : Int32) (K : Int32 → Prop) (KX : String → Prop) : Prop :=
  ((x2 < 0 →
    xp_X4_scene_9 f_now_cells K KX 
  ) ∧ (¬ x2 < 0 →
    ((x2 ≤ 4 →
      xp_X3_ofScene f_now_cells x1 x2 (fun r3 =>
        K r3
      )
    ) ∧ (¬ x2 ≤ 4 →
      xp_X4_scene_9 f_now_cells K KX 
    ))
  ))
def xp_X4_runScript_10  (f_now_cells : Nat → Int32) (K : Int32 → ((Nat → Int32)) → Prop) (KX : String → ((Nat → Int32)) → Prop)  (f_copy_cells : Nat → Int32) : Prop :=
  KX xIA (f_copy_cells)
def xp_X4_runScript_37  (f_now_cells : Nat → Int32) (K : Int32 → ((Nat → Int32)) → Prop) (KX : String → ((Nat → Int32)) → Prop)  (f_copy_cells : Nat → Int32) : Prop :=
  KX xIA (f_copy_cells)
def xp_X4_runScript_62  (f_now_cells : Nat → Int32) (K : Int32 → ((Nat → Int32)) → Prop) (KX : String → ((Nat → Int32)) → Prop)  : Nat → (Nat → Int32) → Int32 → Int64 → Int32 → Prop
  | 0, _, _, _, _ => False
  | n + 1, f_copy_cells, v1, v2, v4 =>
    ((v1 ≤ v4 →
      K (-1 : Int32) (f_copy_cells)
    ) ∧ (¬ v1 ≤ v4 →
      xp_X4_withoutGroups v2 ((v1 - 1) - v4) (fun r2 =>
        xp_X4_succeeds f_copy_cells ((r2 - r2 / 100000 * 100000).toInt32) (fun r3 u3 =>
          ((¬ r3 = 0 →
            xp_X4_runScript_62 f_now_cells K KX n u3 v1 v2 (v4 + 1)
          ) ∧ (r3 = 0 →
            K v4 (u3)
          ))
        )
      )
    ))
def xp_X4_runScript  (f_now_cells : Nat → Int32) (f_copy_cells : Nat → Int32) (x1 : Int32) (x2 : Int64) (K : Int32 → ((Nat → Int32)) → Prop) (KX : String → ((Nat → Int32)) → Prop) : Prop :=
  ((x1 < 1 →
    xp_X4_runScript_10 f_now_cells K KX f_copy_cells
  ) ∧ (¬ x1 < 1 →
    ((x1 ≤ 3 →
      (((lg_cmp x2 0) < 0 →
        xp_X4_runScript_37 f_now_cells K KX f_copy_cells
      ) ∧ (¬ (lg_cmp x2 0) < 0 →
        xp_X4_withoutGroups x2 x1 (fun r4 =>
          (((lg_cmp r4 0) ≤ 0 →
            xp_X3_copyFrom f_now_cells f_copy_cells (fun u6 =>
              ∃ n9, xp_X4_runScript_62 f_now_cells K KX n9 u6 x1 x2 0
            )
          ) ∧ (¬ (lg_cmp r4 0) ≤ 0 →
            xp_X4_runScript_37 f_now_cells K KX f_copy_cells
          ))
        )
      ))
    ) ∧ (¬ x1 ≤ 3 →
      xp_X4_runScript_10 f_now_cells K KX f_copy_cells
    ))
  ))
def xp_X4_simulate_11  (f_now_cells : Nat → Int32) (K : Int32 → ((Nat → Int32)) → Prop) (KX : String → ((Nat → Int32)) → Prop)  (f_copy_cells : Nat → Int32) : Prop :=
  KX xIA (f_copy_cells)
def xp_X4_simulate_39  (f_now_cells : Nat → Int32) (K : Int32 → ((Nat → Int32)) → Prop) (KX : String → ((Nat → Int32)) → Prop)  : Nat → (Nat → Int32) → Int32 → Int64 → Int32 → Prop
  | 0, _, _, _, _ => False
  | n + 1, f_copy_cells, v3, v4, v6 =>
    ((v3 ≤ v6 →
      xp_X3_wrongSlates f_copy_cells (fun r2 =>
        xp_X3_unlikeSounds f_copy_cells (fun r3 =>
          K ((1000 * r2) + r3) (f_copy_cells)
        )
      )
    ) ∧ (¬ v3 ≤ v6 →
      xp_X4_doTurn f_copy_cells (((((v4 * 6364136223846793005) + 1442695040888963407).toUInt64 >>> ((33 : Int32).toInt64.toUInt64 &&& Int64.toUInt64 63)).toInt64).toInt32) (fun u4 =>
        xp_X4_simulate_39 f_now_cells K KX n u4 v3 ((v4 * 6364136223846793005) + 1442695040888963407) (v6 + 1)
      )
    ))
def xp_X4_simulate  (f_now_cells : Nat → Int32) (f_copy_cells : Nat → Int32) (x1 : Int64) (x2 : Int32) (K : Int32 → ((Nat → Int32)) → Prop) (KX : String → ((Nat → Int32)) → Prop) : Prop :=
  ((x2 < 1 →
    xp_X4_simulate_11 f_now_cells K KX f_copy_cells
  ) ∧ (¬ x2 < 1 →
    ((x2 ≤ 80 →
      xp_X3_copyFrom f_now_cells f_copy_cells (fun u3 =>
        ∃ n9, xp_X4_simulate_39 f_now_cells K KX n9 u3 x2 x1 0
      )
    ) ∧ (¬ x2 ≤ 80 →
      xp_X4_simulate_11 f_now_cells K KX f_copy_cells
    ))
  ))
def xp_X4_save_9  (f_now_cells : Nat → Int32) (K : Int32 → ((Nat → Int32) × (Nat → Int32)) → Prop) (KX : String → ((Nat → Int32) × (Nat → Int32)) → Prop)  (f_slots_cells : Nat → Int32) (f_saved : Nat → Int32) : Prop :=
  KX xIO (f_slots_cells, f_saved)
def xp_X4_save  (f_now_cells : Nat → Int32) (f_slots_cells : Nat → Int32) (f_saved : Nat → Int32) (x1 : Int32) (K : Int32 → ((Nat → Int32) × (Nat → Int32)) → Prop) (KX : String → ((Nat → Int32) × (Nat → Int32)) → Prop) : Prop :=
  ((x1 < 0 →
    xp_X4_save_9 f_now_cells K KX f_slots_cells f_saved
  ) ∧ (¬ x1 < 0 →
    ((x1 < 2 →
      xp_X2_store 800 2 f_now_cells f_slots_cells x1 (fun u3 =>
        (vp_in x1 2) ∧
        xp_X3_takes f_now_cells (fun r4 =>
          K r4 (u3, upd f_saved x1.toNatClampNeg (vp_nar .boolean 1))
        )
      )
    ) ∧ (¬ x1 < 2 →
      xp_X4_save_9 f_now_cells K KX f_slots_cells f_saved
    ))
  ))
def xp_X4_restore_9  (f_slots_cells : Nat → Int32) (f_saved : Nat → Int32) (K : Int32 → ((Nat → Int32) × Int32 × Int32) → Prop) (KX : String → ((Nat → Int32) × Int32 × Int32) → Prop)  (f_now_cells : Nat → Int32) (f_remembered : Int32) (f_oldest : Int32) : Prop :=
  KX xIO (f_now_cells, f_remembered, f_oldest)
def xp_X4_restore  (f_slots_cells : Nat → Int32) (f_saved : Nat → Int32) (f_now_cells : Nat → Int32) (f_remembered : Int32) (f_oldest : Int32) (x1 : Int32) (K : Int32 → ((Nat → Int32) × Int32 × Int32) → Prop) (KX : String → ((Nat → Int32) × Int32 × Int32) → Prop) : Prop :=
  ((x1 < 0 →
    xp_X4_restore_9 f_slots_cells f_saved K KX f_now_cells f_remembered f_oldest
  ) ∧ (¬ x1 < 0 →
    ((x1 < 2 →
      (vp_in x1 2) ∧
      ((¬ (f_saved x1.toNatClampNeg) = 0 →
        xp_X2_fetch 800 f_slots_cells 2 f_now_cells x1 (fun u4 =>
          xp_X4_forget f_remembered f_oldest (fun u5 =>
            xp_X3_takes u4 (fun r6 =>
              K r6 (u4, u5.1, u5.2)
            )
          )
        )
      ) ∧ ((f_saved x1.toNatClampNeg) = 0 →
        KX xIS (f_now_cells, f_remembered, f_oldest)
      ))
    ) ∧ (¬ x1 < 2 →
      xp_X4_restore_9 f_slots_cells f_saved K KX f_now_cells f_remembered f_oldest
    ))
  ))
set_option maxRecDepth 20000 in
theorem xw_X4_append_IA : ∀ w ∈ (vx_atS RX4 53 xIA xNm).filter goodWord, w ∈ wsX4_append := by decide +kernel
set_option maxRecDepth 20000 in
theorem xw_X4_append_IS : ∀ w ∈ (vx_atS RX4 64 xIS xNm).filter goodWord, w ∈ wsX4_append := by decide +kernel
set_option maxRecDepth 20000 in
theorem xin_X4_append_X4 : ∀ w ∈ u_ws RX4 TX4 9, w ∈ wsX4_append := by decide +kernel
set_option maxRecDepth 20000 in
theorem xin_X4_append_X0 : ∀ w ∈ u_ws RX0 TX0 7, w ∈ wsX4_append := by decide +kernel
set_option maxHeartbeats 4000000 in
set_option maxRecDepth 100000 in
theorem xb_X4_append_11 {p : Program} {l : Launch} {e : Env} {s : State} {m : MethodId} {args : Array Value} {below : List Frame} {meth : Method} {c : Code} {A : Nat → Prop} {D : va_G} {cI cC cZ cL : ClassId} {sf : Nat → Nat} {tL tH : Nat} {h h_now h_copy h_past h_slots h_saved h_text h_shown h_text_signs : Nat}  {f_remembered : Int32} {f_oldest : Int32} {f_text_at : Int32} {f_text_command : Int32} {f_text_scene : Int32} {f_text_letter : Int32} {f_text_number : Int32} {K : Int32 → ((Nat → Int32) × Int32) → Prop} {KX : String → ((Nat → Int32) × Int32) → Prop}  (C0 : xC p s m args meth c cX4_append 2 (some .int) wsX4_append RX4 D (xTY cI cC cZ cL)) (hA : ∀ q : Nat, s.heap.size ≤ q → A q) (T0 : xT sf tL tH A s s.heap) (hl0 : l.stackTraces = false) (hne : ∀ x ∈ c.exceptionTable.toList, False)  : ∀ (f_text_signs : Nat → Int32) (f_text_length : Int32) , xp_X4_append_11 K KX f_text_signs f_text_length → ∀ (H : Heap) (locs : List Loc) (ls : Array Slot), va_P D vwCl [(h, .inr (4, [.ref h_now, .ref h_copy, .ref h_past, .ref h_slots, .ref h_saved, .ref h_text, .ref h_shown, .int f_remembered, .int f_oldest])), (h_text, .inr (0, [.ref h_text_signs, .int f_text_length, .int f_text_at, .int f_text_command, .int f_text_scene, .int f_text_letter, .int f_text_number])), (h_text_signs, .inl (cC, 120, .inl f_text_signs))] H → va_D A [(h, .inr (4, [.ref h_now, .ref h_copy, .ref h_past, .ref h_slots, .ref h_saved, .ref h_text, .ref h_shown, .int f_remembered, .int f_oldest])), (h_text, .inr (0, [.ref h_text_signs, .int f_text_length, .int f_text_at, .int f_text_command, .int f_text_scene, .int f_text_letter, .int f_text_number])), (h_text_signs, .inl (cC, 120, .inl f_text_signs))] → va_S A s.heap H locs → lv_has ls 2 [] → W p l e ({ frames := 6, cells := 1, slots := 6, locals := 92 } : Room) s m args below meth c H locs 0 0 (vx_MQ below (va_Qi (fun (r : Int32) (u : (Nat → Int32) × Int32) => K r u) (fun u t => xE D A ((fun (u : (Nat → Int32) × Int32) => [(h, .inr (4, [.ref h_now, .ref h_copy, .ref h_past, .ref h_slots, .ref h_saved, .ref h_text, .ref h_shown, .int f_remembered, .int f_oldest])), (h_text, .inr (0, [.ref h_text_signs, .int u.2, .int f_text_at, .int f_text_command, .int f_text_scene, .int f_text_letter, .int f_text_number])), (h_text_signs, .inl (cC, 120, .inl u.1))]) u) t) A) (vx_X (fun (_ : (Nat → Int32) × Int32) => True) (fun E u t => ((fun (E : String) (u : (Nat → Int32) × Int32) => KX E u) E u) ∧ xE D A ((fun (u : (Nat → Int32) × Int32) => [(h, .inr (4, [.ref h_now, .ref h_copy, .ref h_past, .ref h_slots, .ref h_saved, .ref h_text, .ref h_shown, .int f_remembered, .int f_oldest])), (h_text, .inr (0, [.ref h_text_signs, .int u.2, .int f_text_at, .int f_text_command, .int f_text_scene, .int f_text_letter, .int f_text_number])), (h_text_signs, .inl (cC, 120, .inl u.1))]) u) t) A) args s 1 6 A) (F0 m 11 ls []) := by
  obtain ⟨hx, hb, hr, hml, hown, hts, hlocks, hK, hN⟩ := id C0
  intro f_text_signs f_text_length hk H locs ls hP hD hS hl
  rw [xp_X4_append_11] at hk
  exact x_thr (text := "the character code is not 0 to 255") C0 T0 hl0 hne (f_text_signs, f_text_length) hk hP hD hS hl.1 (by decide +kernel) (by decide +kernel) (by decide +kernel) xw_X4_append_IA x_ngIA x_otIA (by decide +kernel) (by decide) (Nat.le_of_ble_eq_true rfl) (by decide) (by decide) dX4_append_11 dX4_append_14 dX4_append_15 dX4_append_17 dX4_append_20
set_option maxHeartbeats 4000000 in
set_option maxRecDepth 100000 in
theorem xb_X4_append_0 {p : Program} {l : Launch} {e : Env} {s : State} {m : MethodId} {args : Array Value} {below : List Frame} {meth : Method} {c : Code} {A : Nat → Prop} {D : va_G} {cI cC cZ cL : ClassId} {sf : Nat → Nat} {tL tH : Nat} {h h_now h_copy h_past h_slots h_saved h_text h_shown h_text_signs : Nat}  {f_remembered : Int32} {f_oldest : Int32} {f_text_at : Int32} {f_text_command : Int32} {f_text_scene : Int32} {f_text_letter : Int32} {f_text_number : Int32} {K : Int32 → ((Nat → Int32) × Int32) → Prop} {KX : String → ((Nat → Int32) × Int32) → Prop}  (C0 : xC p s m args meth c cX4_append 2 (some .int) wsX4_append RX4 D (xTY cI cC cZ cL)) (hA : ∀ q : Nat, s.heap.size ≤ q → A q) (T0 : xT sf tL tH A s s.heap) (hl0 : l.stackTraces = false) (hne : ∀ x ∈ c.exceptionTable.toList, False)  : ∀ (f_text_signs : Nat → Int32) (f_text_length : Int32) (x1 : Int32) , xp_X4_append f_text_signs f_text_length x1 K KX → ∀ (H : Heap) (locs : List Loc) (ls : Array Slot), va_P D vwCl [(h, .inr (4, [.ref h_now, .ref h_copy, .ref h_past, .ref h_slots, .ref h_saved, .ref h_text, .ref h_shown, .int f_remembered, .int f_oldest])), (h_text, .inr (0, [.ref h_text_signs, .int f_text_length, .int f_text_at, .int f_text_command, .int f_text_scene, .int f_text_letter, .int f_text_number])), (h_text_signs, .inl (cC, 120, .inl f_text_signs))] H → va_D A [(h, .inr (4, [.ref h_now, .ref h_copy, .ref h_past, .ref h_slots, .ref h_saved, .ref h_text, .ref h_shown, .int f_remembered, .int f_oldest])), (h_text, .inr (0, [.ref h_text_signs, .int f_text_length, .int f_text_at, .int f_text_command, .int f_text_scene, .int f_text_letter, .int f_text_number])), (h_text_signs, .inl (cC, 120, .inl f_text_signs))] → va_S A s.heap H locs → lv_has ls 2 [(0, .ref h), (1, .int x1)] → W p l e ({ frames := 6, cells := 1, slots := 6, locals := 92 } : Room) s m args below meth c H locs 0 0 (vx_MQ below (va_Qi (fun (r : Int32) (u : (Nat → Int32) × Int32) => K r u) (fun u t => xE D A ((fun (u : (Nat → Int32) × Int32) => [(h, .inr (4, [.ref h_now, .ref h_copy, .ref h_past, .ref h_slots, .ref h_saved, .ref h_text, .ref h_shown, .int f_remembered, .int f_oldest])), (h_text, .inr (0, [.ref h_text_signs, .int u.2, .int f_text_at, .int f_text_command, .int f_text_scene, .int f_text_letter, .int f_text_number])), (h_text_signs, .inl (cC, 120, .inl u.1))]) u) t) A) (vx_X (fun (_ : (Nat → Int32) × Int32) => True) (fun E u t => ((fun (E : String) (u : (Nat → Int32) × Int32) => KX E u) E u) ∧ xE D A ((fun (u : (Nat → Int32) × Int32) => [(h, .inr (4, [.ref h_now, .ref h_copy, .ref h_past, .ref h_slots, .ref h_saved, .ref h_text, .ref h_shown, .int f_remembered, .int f_oldest])), (h_text, .inr (0, [.ref h_text_signs, .int u.2, .int f_text_at, .int f_text_command, .int f_text_scene, .int f_text_letter, .int f_text_number])), (h_text_signs, .inl (cC, 120, .inl u.1))]) u) t) A) args s 1 6 A) (F0 m 0 ls []) := by
  obtain ⟨hx, hb, hr, hml, hown, hts, hlocks, hK, hN⟩ := id C0
  intro f_text_signs f_text_length x1 hk H locs ls hP hD hS hl
  rw [xp_X4_append] at hk
  refine lv_iload_n hx hb dX4_append_0 rfl (lv_at hl 1 rfl) ?_
  refine lv_if_lt (tgt := 11) hx hb dX4_append_1 (by decide) (fun c1 => ?_) (fun c1 => ?_)
  · have hk := hk.1 c1
    exact xb_X4_append_11 C0 hA T0 hl0 hne  _ _ hk H locs ls hP hD hS (lv_sub hl [] rfl)
  · have hk := hk.2 c1
    refine lv_iload_n hx hb dX4_append_4 rfl (lv_at hl 1 rfl) ?_
    refine lv_sipush (v := 255) hx hb dX4_append_5 (by decide) ?_
    refine lv_icmp_le (tgt := 21) hx hb dX4_append_8 (by decide) (fun c2 => ?_) (fun c2 => ?_)
    · have hk := hk.1 c2
      refine lv_aload_n hx hb dX4_append_21 rfl (lv_at hl 0 rfl) ?_
      refine va_get (D := D) (ci := 4) (v := .ref h_text) (C := RX4) (T := TX4) (N := 9) hx hb hts xin_X4_append_X4 hown hK hP 0 rfl rfl 5 (by decide) (hts (.fieldLink RX4 38 "TakeLog" "text" "LTakeLog$Day;") (by decide +kernel)) (fun _ h9 => h9) rfl dX4_append_22 ?_
      refine x_joini (ws1 := fun (_ : Unit) => [(h, .inr (4, [.ref h_now, .ref h_copy, .ref h_past, .ref h_slots, .ref h_saved, .ref h_text, .ref h_shown, .int f_remembered, .int f_oldest])), (h_text, .inr (0, [.ref h_text_signs, .int f_text_length, .int f_text_at, .int f_text_command, .int f_text_scene, .int f_text_letter, .int f_text_number])), (h_text_signs, .inl (cC, 120, .inl f_text_signs))]) (x_runV (n0 := 0) (As := []) (rest := []) C0 (xc_X0_isFull l D cI cC cZ cL h_text h_text_signs H.size f_text_length f_text_at f_text_command f_text_scene f_text_letter f_text_number _ hk) gX4_append_X0_isFull rfl ⟨rfl, rfl⟩ (by decide +kernel) rfl ⟨by decide, by decide⟩ ⟨Nat.zero_le _, Nat.zero_le _⟩ hP hD [1] rfl rfl (k := 1) rfl rfl rfl hl.1 rfl (Nat.le_of_ble_eq_true rfl) dX4_append_25) hP hD hS hA [1] [0, 2] [0, 2, 1] rfl rfl rfl (by decide) (fun _ => rfl) rfl (fun r3 u3 H locs hk hP hD hS => ?_)
      refine lv_if_eq (tgt := 41) hx hb dX4_append_28 (by decide) (fun c4 => ?_) (fun c4 => ?_)
      · have hk := hk.1 c4
        refine lv_aload_n hx hb dX4_append_41 rfl (lv_at hl 0 rfl) ?_
        refine va_get (D := D) (ci := 4) (v := .ref h_text) (C := RX4) (T := TX4) (N := 9) hx hb hts xin_X4_append_X4 hown hK hP 0 rfl rfl 5 (by decide) (hts (.fieldLink RX4 38 "TakeLog" "text" "LTakeLog$Day;") (by decide +kernel)) (fun _ h9 => h9) rfl dX4_append_42 ?_
        refine lv_iload_n hx hb dX4_append_45 rfl (lv_at hl 1 rfl) ?_
        refine lv_i2c hx hb dX4_append_46 rfl ?_
        refine x_joini (ws1 := fun (u5 : (Nat → Int32) × Int32) => [(h, .inr (4, [.ref h_now, .ref h_copy, .ref h_past, .ref h_slots, .ref h_saved, .ref h_text, .ref h_shown, .int f_remembered, .int f_oldest])), (h_text, .inr (0, [.ref h_text_signs, .int u5.2, .int f_text_at, .int f_text_command, .int f_text_scene, .int f_text_letter, .int f_text_number])), (h_text_signs, .inl (cC, 120, .inl u5.1))]) (x_runV (n0 := 1) (As := [.int ((x1.toUInt32 % 65536).toInt32)]) (rest := []) C0 (xc_X0_add l D cI cC cZ cL h_text h_text_signs H.size f_text_length f_text_at f_text_command f_text_scene f_text_letter f_text_number f_text_signs ((x1.toUInt32 % 65536).toInt32) _ hk) gX4_append_X0_add rfl ⟨rfl, rfl⟩ (by decide +kernel) rfl ⟨by decide, by decide⟩ ⟨Nat.zero_le _, Nat.zero_le _⟩ hP hD [1, 2] rfl rfl (k := 1) rfl rfl rfl hl.1 rfl (Nat.le_of_ble_eq_true rfl) dX4_append_47) hP hD hS hA [1, 2] [0] [0, 1, 2] rfl rfl rfl (by decide) (fun _ => rfl) rfl (fun r5 u5 H locs hk hP hD hS => ?_)
        exact x_retiX C0 (u5.1, u5.2) hk hP hD hS dX4_append_50
      · have hk := hk.2 c4
        exact x_thr (text := "the text is full") C0 T0 hl0 hne (f_text_signs, f_text_length) hk hP hD hS hl.1 (by decide +kernel) (by decide +kernel) (by decide +kernel) xw_X4_append_IS x_ngIS x_otIS (by decide +kernel) (by decide) (Nat.le_of_ble_eq_true rfl) (by decide) (by decide) dX4_append_31 dX4_append_34 dX4_append_35 dX4_append_37 dX4_append_40
    · have hk := hk.2 c2
      exact xb_X4_append_11 C0 hA T0 hl0 hne  _ _ hk H locs ls hP hD hS (lv_sub hl [] rfl)
theorem xc_X4_append (l : Launch) (hl0 : l.stackTraces = false) (D : va_G) (cI cC cZ cL : ClassId) (sf : Nat → Nat) (tL tH : Nat) (h h_now h_copy h_past h_slots h_saved h_text h_shown h_text_signs : Nat)  (sz : Nat) (f_remembered : Int32) (f_oldest : Int32) (f_text_length : Int32) (f_text_at : Int32) (f_text_command : Int32) (f_text_scene : Int32) (f_text_letter : Int32) (f_text_number : Int32) (f_text_signs : Nat → Int32) (x1 : Int32) (K : Int32 → ((Nat → Int32) × Int32) → Prop) (KX : String → ((Nat → Int32) × Int32) → Prop) (hk : xp_X4_append f_text_signs f_text_length x1 K KX) : XMx l yX4_append wsX4_append ({ frames := 6, cells := 1, slots := 6, locals := 92 } : Room) D (xTY cI cC cZ cL) sf tL tH [.ref h, .int x1] [(h, .inr (4, [.ref h_now, .ref h_copy, .ref h_past, .ref h_slots, .ref h_saved, .ref h_text, .ref h_shown, .int f_remembered, .int f_oldest])), (h_text, .inr (0, [.ref h_text_signs, .int f_text_length, .int f_text_at, .int f_text_command, .int f_text_scene, .int f_text_letter, .int f_text_number])), (h_text_signs, .inl (cC, 120, .inl f_text_signs))] sz (fun (r : Int32) (u : (Nat → Int32) × Int32) => K r u) (fun (E : String) (u : (Nat → Int32) × Int32) => KX E u) (fun (u : (Nat → Int32) × Int32) => [(h, .inr (4, [.ref h_now, .ref h_copy, .ref h_past, .ref h_slots, .ref h_saved, .ref h_text, .ref h_shown, .int f_remembered, .int f_oldest])), (h_text, .inr (0, [.ref h_text_signs, .int u.2, .int f_text_at, .int f_text_command, .int f_text_scene, .int f_text_letter, .int f_text_number])), (h_text_signs, .inl (cC, 120, .inl u.1))]) :=
  x_enterX (cc := cX4_append) (maxL := 2) (ret := (some .int)) (own := RX4) (by decide) rfl rfl (Nat.le_of_ble_eq_true rfl) (fun p e s m below meth c ls C0 T0 hne hA hP hD hS hl => xb_X4_append_0 C0 hA T0 hl0 hne _ _ _ hk s.heap [] ls hP hD hS hl)
set_option maxRecDepth 20000 in
theorem xw_X4_load_IS : ∀ w ∈ (vx_atS RX4 64 xIS xNm).filter goodWord, w ∈ wsX4_load := by decide +kernel
set_option maxRecDepth 20000 in
theorem xin_X4_load_X0 : ∀ w ∈ u_ws RX0 TX0 7, w ∈ wsX4_load := by decide +kernel
set_option maxRecDepth 20000 in
theorem xin_X4_load_X3 : ∀ w ∈ u_ws RX3 TX3 1, w ∈ wsX4_load := by decide +kernel
set_option maxRecDepth 20000 in
theorem xin_X4_load_X4 : ∀ w ∈ u_ws RX4 TX4 9, w ∈ wsX4_load := by decide +kernel
set_option maxHeartbeats 4000000 in
set_option maxRecDepth 100000 in
theorem xb_X4_load_0 {p : Program} {l : Launch} {e : Env} {s : State} {m : MethodId} {args : Array Value} {below : List Frame} {meth : Method} {c : Code} {A : Nat → Prop} {D : va_G} {cI cC cZ cL : ClassId} {sf : Nat → Nat} {tL tH : Nat} {h h_now h_copy h_past h_slots h_saved h_text h_shown h_now_cells h_text_signs : Nat}  {f_text_length : Int32} {f_text_signs : Nat → Int32} {K : Int32 → ((Nat → Int32) × (Nat → Int32) × Int32 × Int32 × Int32 × Int32 × Int32 × Int32 × Int32) → Prop} {KX : String → ((Nat → Int32) × (Nat → Int32) × Int32 × Int32 × Int32 × Int32 × Int32 × Int32 × Int32) → Prop}  (C0 : xC p s m args meth c cX4_load 1 (some .int) wsX4_load RX4 D (xTY cI cC cZ cL)) (hA : ∀ q : Nat, s.heap.size ≤ q → A q) (T0 : xT sf tL tH A s s.heap) (hl0 : l.stackTraces = false) (hne : ∀ x ∈ c.exceptionTable.toList, False)  : ∀ (f_now_cells : Nat → Int32) (f_saved : Nat → Int32) (f_text_at : Int32) (f_text_command : Int32) (f_text_scene : Int32) (f_text_letter : Int32) (f_text_number : Int32) (f_remembered : Int32) (f_oldest : Int32) , xp_X4_load f_text_signs f_text_length f_now_cells f_saved f_text_at f_text_command f_text_scene f_text_letter f_text_number f_remembered f_oldest K KX → ∀ (H : Heap) (locs : List Loc) (ls : Array Slot), va_P D vwCl [(h, .inr (4, [.ref h_now, .ref h_copy, .ref h_past, .ref h_slots, .ref h_saved, .ref h_text, .ref h_shown, .int f_remembered, .int f_oldest])), (h_now, .inr (3, [.ref h_now_cells])), (h_now_cells, .inl (cI, 400, .inl f_now_cells)), (h_saved, .inl (cZ, 2, .inl f_saved)), (h_text, .inr (0, [.ref h_text_signs, .int f_text_length, .int f_text_at, .int f_text_command, .int f_text_scene, .int f_text_letter, .int f_text_number])), (h_text_signs, .inl (cC, 120, .inl f_text_signs))] H → va_D A [(h, .inr (4, [.ref h_now, .ref h_copy, .ref h_past, .ref h_slots, .ref h_saved, .ref h_text, .ref h_shown, .int f_remembered, .int f_oldest])), (h_now, .inr (3, [.ref h_now_cells])), (h_now_cells, .inl (cI, 400, .inl f_now_cells)), (h_saved, .inl (cZ, 2, .inl f_saved)), (h_text, .inr (0, [.ref h_text_signs, .int f_text_length, .int f_text_at, .int f_text_command, .int f_text_scene, .int f_text_letter, .int f_text_number])), (h_text_signs, .inl (cC, 120, .inl f_text_signs))] → va_S A s.heap H locs → lv_has ls 1 [(0, .ref h)] → W p l e ({ frames := 7, cells := 1, slots := 6, locals := 155 } : Room) s m args below meth c H locs 0 0 (vx_MQ below (va_Qi (fun (r : Int32) (u : (Nat → Int32) × (Nat → Int32) × Int32 × Int32 × Int32 × Int32 × Int32 × Int32 × Int32) => K r u) (fun u t => xE D A ((fun (u : (Nat → Int32) × (Nat → Int32) × Int32 × Int32 × Int32 × Int32 × Int32 × Int32 × Int32) => [(h, .inr (4, [.ref h_now, .ref h_copy, .ref h_past, .ref h_slots, .ref h_saved, .ref h_text, .ref h_shown, .int u.2.2.2.2.2.2.2.1, .int u.2.2.2.2.2.2.2.2])), (h_now, .inr (3, [.ref h_now_cells])), (h_now_cells, .inl (cI, 400, .inl u.1)), (h_saved, .inl (cZ, 2, .inl u.2.1)), (h_text, .inr (0, [.ref h_text_signs, .int f_text_length, .int u.2.2.1, .int u.2.2.2.1, .int u.2.2.2.2.1, .int u.2.2.2.2.2.1, .int u.2.2.2.2.2.2.1])), (h_text_signs, .inl (cC, 120, .inl f_text_signs))]) u) t) A) (vx_X (fun (_ : (Nat → Int32) × (Nat → Int32) × Int32 × Int32 × Int32 × Int32 × Int32 × Int32 × Int32) => True) (fun E u t => ((fun (E : String) (u : (Nat → Int32) × (Nat → Int32) × Int32 × Int32 × Int32 × Int32 × Int32 × Int32 × Int32) => KX E u) E u) ∧ xE D A ((fun (u : (Nat → Int32) × (Nat → Int32) × Int32 × Int32 × Int32 × Int32 × Int32 × Int32 × Int32) => [(h, .inr (4, [.ref h_now, .ref h_copy, .ref h_past, .ref h_slots, .ref h_saved, .ref h_text, .ref h_shown, .int u.2.2.2.2.2.2.2.1, .int u.2.2.2.2.2.2.2.2])), (h_now, .inr (3, [.ref h_now_cells])), (h_now_cells, .inl (cI, 400, .inl u.1)), (h_saved, .inl (cZ, 2, .inl u.2.1)), (h_text, .inr (0, [.ref h_text_signs, .int f_text_length, .int u.2.2.1, .int u.2.2.2.1, .int u.2.2.2.2.1, .int u.2.2.2.2.2.1, .int u.2.2.2.2.2.2.1])), (h_text_signs, .inl (cC, 120, .inl f_text_signs))]) u) t) A) args s 1 6 A) (F0 m 0 ls []) := by
  obtain ⟨hx, hb, hr, hml, hown, hts, hlocks, hK, hN⟩ := id C0
  intro f_now_cells f_saved f_text_at f_text_command f_text_scene f_text_letter f_text_number f_remembered f_oldest hk H locs ls hP hD hS hl
  rw [xp_X4_load] at hk
  refine lv_aload_n hx hb dX4_load_0 rfl (lv_at hl 0 rfl) ?_
  refine va_get (D := D) (ci := 4) (v := .ref h_text) (C := RX4) (T := TX4) (N := 9) hx hb hts xin_X4_load_X4 hown hK hP 0 rfl rfl 5 (by decide) (hts (.fieldLink RX4 38 "TakeLog" "text" "LTakeLog$Day;") (by decide +kernel)) (fun _ h9 => h9) rfl dX4_load_1 ?_
  refine x_joini (ws1 := fun (u1 : Int32 × Int32 × Int32 × Int32 × Int32) => [(h, .inr (4, [.ref h_now, .ref h_copy, .ref h_past, .ref h_slots, .ref h_saved, .ref h_text, .ref h_shown, .int f_remembered, .int f_oldest])), (h_now, .inr (3, [.ref h_now_cells])), (h_now_cells, .inl (cI, 400, .inl f_now_cells)), (h_saved, .inl (cZ, 2, .inl f_saved)), (h_text, .inr (0, [.ref h_text_signs, .int f_text_length, .int u1.1, .int u1.2.1, .int u1.2.2.1, .int u1.2.2.2.1, .int u1.2.2.2.2])), (h_text_signs, .inl (cC, 120, .inl f_text_signs))]) (x_runV (n0 := 0) (As := []) (rest := []) C0 (xc_X0_firstError l D cI cC cZ cL h_text h_text_signs H.size f_text_length f_text_at f_text_command f_text_scene f_text_letter f_text_number f_text_signs _ hk) gX4_load_X0_firstError rfl ⟨rfl, rfl⟩ (by decide +kernel) rfl ⟨by decide, by decide⟩ ⟨Nat.zero_le _, Nat.zero_le _⟩ hP hD [4, 5] rfl rfl (k := 4) rfl rfl rfl hl.1 rfl (Nat.le_of_ble_eq_true rfl) dX4_load_4) hP hD hS hA [4, 5] [0, 1, 2, 3] [0, 1, 2, 3, 4, 5] rfl rfl rfl (by decide) (fun _ => rfl) rfl (fun r1 u1 H locs hk hP hD hS => ?_)
  refine lv_iconst (v := (-1 : Int32)) hx hb dX4_load_7 (by decide) ?_
  refine lv_icmp_eq (tgt := 21) hx hb dX4_load_8 (by decide) (fun c2 => ?_) (fun c2 => ?_)
  · have hk := hk.1 c2
    refine lv_aload_n hx hb dX4_load_21 rfl (lv_at hl 0 rfl) ?_
    refine va_get (D := D) (ci := 4) (v := .ref h_now) (C := RX4) (T := TX4) (N := 9) hx hb hts xin_X4_load_X4 hown hK hP 0 rfl rfl 0 (by decide) (hts (.fieldLink RX4 12 "TakeLog" "now" "LTakeLog$State;") (by decide +kernel)) (fun _ h9 => h9) rfl dX4_load_22 ?_
    refine x_joinv (ws1 := fun (u3 : (Nat → Int32)) => [(h, .inr (4, [.ref h_now, .ref h_copy, .ref h_past, .ref h_slots, .ref h_saved, .ref h_text, .ref h_shown, .int f_remembered, .int f_oldest])), (h_now, .inr (3, [.ref h_now_cells])), (h_now_cells, .inl (cI, 400, .inl u3)), (h_saved, .inl (cZ, 2, .inl f_saved)), (h_text, .inr (0, [.ref h_text_signs, .int f_text_length, .int u1.1, .int u1.2.1, .int u1.2.2.1, .int u1.2.2.2.1, .int u1.2.2.2.2])), (h_text_signs, .inl (cC, 120, .inl f_text_signs))]) (x_runV (n0 := 0) (As := []) (rest := []) C0 (xc_X3_reset l D cI cC cZ cL h_now h_now_cells H.size f_now_cells _ hk) gX4_load_X3_reset rfl ⟨rfl, rfl⟩ (by decide +kernel) rfl ⟨by decide, by decide⟩ ⟨Nat.zero_le _, Nat.zero_le _⟩ hP hD [1, 2] rfl rfl (k := 1) rfl rfl rfl hl.1 rfl (Nat.le_of_ble_eq_true rfl) dX4_load_25) hP hD hS hA [1, 2] [0, 3, 4, 5] [0, 4, 5, 1, 2, 3] rfl rfl rfl (by decide) (fun _ => rfl) rfl (fun u3 H locs hk hP hD hS => ?_)
    refine lv_aload_n hx hb dX4_load_28 rfl (lv_at hl 0 rfl) ?_
    refine x_joinv (ws1 := fun (u4 : Int32 × Int32) => [(h, .inr (4, [.ref h_now, .ref h_copy, .ref h_past, .ref h_slots, .ref h_saved, .ref h_text, .ref h_shown, .int u4.1, .int u4.2])), (h_now, .inr (3, [.ref h_now_cells])), (h_now_cells, .inl (cI, 400, .inl u3)), (h_saved, .inl (cZ, 2, .inl f_saved)), (h_text, .inr (0, [.ref h_text_signs, .int f_text_length, .int u1.1, .int u1.2.1, .int u1.2.2.1, .int u1.2.2.2.1, .int u1.2.2.2.2])), (h_text_signs, .inl (cC, 120, .inl f_text_signs))]) (x_runV (n0 := 0) (As := []) (rest := []) C0 (xc_X4_forget l D cI cC cZ cL h h_now h_copy h_past h_slots h_saved h_text h_shown H.size f_remembered f_oldest _ hk) gX4_load_X4_forget rfl ⟨rfl, rfl⟩ (by decide +kernel) rfl ⟨by decide, by decide⟩ ⟨Nat.zero_le _, Nat.zero_le _⟩ hP hD [0] rfl rfl (k := 0) rfl rfl rfl hl.1 rfl (Nat.le_of_ble_eq_true rfl) dX4_load_29) hP hD hS hA [0] [1, 2, 3, 4, 5] [5, 0, 1, 2, 3, 4] rfl rfl rfl (by decide) (fun _ => rfl) rfl (fun u4 H locs hk hP hD hS => ?_)
    refine lv_aload_n hx hb dX4_load_32 rfl (lv_at hl 0 rfl) ?_
    refine va_get (D := D) (ci := 4) (v := .ref h_saved) (C := RX4) (T := TX4) (N := 9) hx hb hts xin_X4_load_X4 hown hK hP 0 rfl rfl 4 (by decide) (hts (.fieldLink RX4 31 "TakeLog" "saved" "[Z") (by decide +kernel)) (fun _ h9 => h9) rfl dX4_load_33 ?_
    refine lv_iconst (v := 0) hx hb dX4_load_36 (by decide) ?_
    refine lv_iconst (v := 0) hx hb dX4_load_37 (by decide) ?_
    refine x_zast (k := 0) hx hb hK hP hD hS 3 2 rfl rfl (x_lit rfl (by decide) (by decide)) rfl dX4_load_38 (fun H locs hP hD hS => ?_)
    have hP : va_P D vwCl [(h, .inr (4, [.ref h_now, .ref h_copy, .ref h_past, .ref h_slots, .ref h_saved, .ref h_text, .ref h_shown, .int u4.1, .int u4.2])), (h_now, .inr (3, [.ref h_now_cells])), (h_now_cells, .inl (cI, 400, .inl u3)), (h_saved, .inl (cZ, 2, .inl (upd f_saved 0 (vp_nar .boolean 0)))), (h_text, .inr (0, [.ref h_text_signs, .int f_text_length, .int u1.1, .int u1.2.1, .int u1.2.2.1, .int u1.2.2.2.1, .int u1.2.2.2.2])), (h_text_signs, .inl (cC, 120, .inl f_text_signs))] H := hP
    have hD : va_D A [(h, .inr (4, [.ref h_now, .ref h_copy, .ref h_past, .ref h_slots, .ref h_saved, .ref h_text, .ref h_shown, .int u4.1, .int u4.2])), (h_now, .inr (3, [.ref h_now_cells])), (h_now_cells, .inl (cI, 400, .inl u3)), (h_saved, .inl (cZ, 2, .inl (upd f_saved 0 (vp_nar .boolean 0)))), (h_text, .inr (0, [.ref h_text_signs, .int f_text_length, .int u1.1, .int u1.2.1, .int u1.2.2.1, .int u1.2.2.2.1, .int u1.2.2.2.2])), (h_text_signs, .inl (cC, 120, .inl f_text_signs))] := hD
    refine lv_aload_n hx hb dX4_load_39 rfl (lv_at hl 0 rfl) ?_
    refine va_get (D := D) (ci := 4) (v := .ref h_saved) (C := RX4) (T := TX4) (N := 9) hx hb hts xin_X4_load_X4 hown hK hP 0 rfl rfl 4 (by decide) (hts (.fieldLink RX4 31 "TakeLog" "saved" "[Z") (by decide +kernel)) (fun _ h9 => h9) rfl dX4_load_40 ?_
    refine lv_iconst (v := 1) hx hb dX4_load_43 (by decide) ?_
    refine lv_iconst (v := 0) hx hb dX4_load_44 (by decide) ?_
    refine x_zast (k := 1) hx hb hK hP hD hS 3 2 rfl rfl (x_lit rfl (by decide) (by decide)) rfl dX4_load_45 (fun H locs hP hD hS => ?_)
    have hP : va_P D vwCl [(h, .inr (4, [.ref h_now, .ref h_copy, .ref h_past, .ref h_slots, .ref h_saved, .ref h_text, .ref h_shown, .int u4.1, .int u4.2])), (h_now, .inr (3, [.ref h_now_cells])), (h_now_cells, .inl (cI, 400, .inl u3)), (h_saved, .inl (cZ, 2, .inl (upd (upd f_saved 0 (vp_nar .boolean 0)) 1 (vp_nar .boolean 0)))), (h_text, .inr (0, [.ref h_text_signs, .int f_text_length, .int u1.1, .int u1.2.1, .int u1.2.2.1, .int u1.2.2.2.1, .int u1.2.2.2.2])), (h_text_signs, .inl (cC, 120, .inl f_text_signs))] H := hP
    have hD : va_D A [(h, .inr (4, [.ref h_now, .ref h_copy, .ref h_past, .ref h_slots, .ref h_saved, .ref h_text, .ref h_shown, .int u4.1, .int u4.2])), (h_now, .inr (3, [.ref h_now_cells])), (h_now_cells, .inl (cI, 400, .inl u3)), (h_saved, .inl (cZ, 2, .inl (upd (upd f_saved 0 (vp_nar .boolean 0)) 1 (vp_nar .boolean 0)))), (h_text, .inr (0, [.ref h_text_signs, .int f_text_length, .int u1.1, .int u1.2.1, .int u1.2.2.1, .int u1.2.2.2.1, .int u1.2.2.2.2])), (h_text_signs, .inl (cC, 120, .inl f_text_signs))] := hD
    refine lv_aload_n hx hb dX4_load_46 rfl (lv_at hl 0 rfl) ?_
    refine x_joini (ws1 := fun (u5 : (Nat → Int32) × Int32 × Int32 × Int32 × Int32 × Int32) => [(h, .inr (4, [.ref h_now, .ref h_copy, .ref h_past, .ref h_slots, .ref h_saved, .ref h_text, .ref h_shown, .int u4.1, .int u4.2])), (h_now, .inr (3, [.ref h_now_cells])), (h_now_cells, .inl (cI, 400, .inl u5.1)), (h_saved, .inl (cZ, 2, .inl (upd (upd f_saved 0 (vp_nar .boolean 0)) 1 (vp_nar .boolean 0)))), (h_text, .inr (0, [.ref h_text_signs, .int f_text_length, .int u5.2.1, .int u5.2.2.1, .int u5.2.2.2.1, .int u5.2.2.2.2.1, .int u5.2.2.2.2.2])), (h_text_signs, .inl (cC, 120, .inl f_text_signs))]) (x_runV (n0 := 0) (As := []) (rest := []) C0 (xc_X4_obeyText l D cI cC cZ cL h h_now h_copy h_past h_slots h_saved h_text h_shown h_now_cells h_text_signs H.size u4.1 u4.2 u3 f_text_length u1.1 u1.2.1 u1.2.2.1 u1.2.2.2.1 u1.2.2.2.2 f_text_signs _ hk) gX4_load_X4_obeyText rfl ⟨rfl, rfl⟩ (by decide +kernel) rfl ⟨by decide, by decide⟩ ⟨Nat.zero_le _, Nat.zero_le _⟩ hP hD [0, 1, 2, 4, 5] rfl rfl (k := 0) rfl rfl rfl hl.1 rfl (Nat.le_of_ble_eq_true rfl) dX4_load_47) hP hD hS hA [0, 1, 2, 4, 5] [3] [1, 2, 3, 0, 4, 5] rfl rfl rfl (by decide) (fun _ => rfl) rfl (fun r5 u5 H locs hk hP hD hS => ?_)
    exact x_retiX C0 (u5.1, upd (upd f_saved 0 (vp_nar .boolean 0)) 1 (vp_nar .boolean 0), u5.2.1, u5.2.2.1, u5.2.2.2.1, u5.2.2.2.2.1, u5.2.2.2.2.2, u4.1, u4.2) hk hP hD hS dX4_load_50
  · have hk := hk.2 c2
    exact x_thr (text := "the text is not a day") C0 T0 hl0 hne (f_now_cells, f_saved, u1.1, u1.2.1, u1.2.2.1, u1.2.2.2.1, u1.2.2.2.2, f_remembered, f_oldest) hk hP hD hS hl.1 (by decide +kernel) (by decide +kernel) (by decide +kernel) xw_X4_load_IS x_ngIS x_otIS (by decide +kernel) (by decide) (Nat.le_of_ble_eq_true rfl) (by decide) (by decide) dX4_load_11 dX4_load_14 dX4_load_15 dX4_load_17 dX4_load_20
theorem xc_X4_load (l : Launch) (hl0 : l.stackTraces = false) (D : va_G) (cI cC cZ cL : ClassId) (sf : Nat → Nat) (tL tH : Nat) (h h_now h_copy h_past h_slots h_saved h_text h_shown h_now_cells h_text_signs : Nat)  (sz : Nat) (f_remembered : Int32) (f_oldest : Int32) (f_now_cells : Nat → Int32) (f_saved : Nat → Int32) (f_text_length : Int32) (f_text_at : Int32) (f_text_command : Int32) (f_text_scene : Int32) (f_text_letter : Int32) (f_text_number : Int32) (f_text_signs : Nat → Int32)  (K : Int32 → ((Nat → Int32) × (Nat → Int32) × Int32 × Int32 × Int32 × Int32 × Int32 × Int32 × Int32) → Prop) (KX : String → ((Nat → Int32) × (Nat → Int32) × Int32 × Int32 × Int32 × Int32 × Int32 × Int32 × Int32) → Prop) (hk : xp_X4_load f_text_signs f_text_length f_now_cells f_saved f_text_at f_text_command f_text_scene f_text_letter f_text_number f_remembered f_oldest K KX) : XMx l yX4_load wsX4_load ({ frames := 7, cells := 1, slots := 6, locals := 155 } : Room) D (xTY cI cC cZ cL) sf tL tH [.ref h] [(h, .inr (4, [.ref h_now, .ref h_copy, .ref h_past, .ref h_slots, .ref h_saved, .ref h_text, .ref h_shown, .int f_remembered, .int f_oldest])), (h_now, .inr (3, [.ref h_now_cells])), (h_now_cells, .inl (cI, 400, .inl f_now_cells)), (h_saved, .inl (cZ, 2, .inl f_saved)), (h_text, .inr (0, [.ref h_text_signs, .int f_text_length, .int f_text_at, .int f_text_command, .int f_text_scene, .int f_text_letter, .int f_text_number])), (h_text_signs, .inl (cC, 120, .inl f_text_signs))] sz (fun (r : Int32) (u : (Nat → Int32) × (Nat → Int32) × Int32 × Int32 × Int32 × Int32 × Int32 × Int32 × Int32) => K r u) (fun (E : String) (u : (Nat → Int32) × (Nat → Int32) × Int32 × Int32 × Int32 × Int32 × Int32 × Int32 × Int32) => KX E u) (fun (u : (Nat → Int32) × (Nat → Int32) × Int32 × Int32 × Int32 × Int32 × Int32 × Int32 × Int32) => [(h, .inr (4, [.ref h_now, .ref h_copy, .ref h_past, .ref h_slots, .ref h_saved, .ref h_text, .ref h_shown, .int u.2.2.2.2.2.2.2.1, .int u.2.2.2.2.2.2.2.2])), (h_now, .inr (3, [.ref h_now_cells])), (h_now_cells, .inl (cI, 400, .inl u.1)), (h_saved, .inl (cZ, 2, .inl u.2.1)), (h_text, .inr (0, [.ref h_text_signs, .int f_text_length, .int u.2.2.1, .int u.2.2.2.1, .int u.2.2.2.2.1, .int u.2.2.2.2.2.1, .int u.2.2.2.2.2.2.1])), (h_text_signs, .inl (cC, 120, .inl f_text_signs))]) :=
  x_enterX (cc := cX4_load) (maxL := 1) (ret := (some .int)) (own := RX4) (by decide) rfl rfl (Nat.le_of_ble_eq_true rfl) (fun p e s m below meth c ls C0 T0 hne hA hP hD hS hl => xb_X4_load_0 C0 hA T0 hl0 hne _ _ _ _ _ _ _ _ _ hk s.heap [] ls hP hD hS hl)
set_option maxRecDepth 20000 in
theorem xw_X4_about_IA : ∀ w ∈ (vx_atS RX4 53 xIA xNm).filter goodWord, w ∈ wsX4_about := by decide +kernel
set_option maxRecDepth 20000 in
theorem xin_X4_about_X4 : ∀ w ∈ u_ws RX4 TX4 9, w ∈ wsX4_about := by decide +kernel
set_option maxRecDepth 20000 in
theorem xin_X4_about_X3 : ∀ w ∈ u_ws RX3 TX3 1, w ∈ wsX4_about := by decide +kernel
set_option maxHeartbeats 4000000 in
set_option maxRecDepth 100000 in
theorem xb_X4_about_10 {p : Program} {l : Launch} {e : Env} {s : State} {m : MethodId} {args : Array Value} {below : List Frame} {meth : Method} {c : Code} {A : Nat → Prop} {D : va_G} {cI cC cZ cL : ClassId} {sf : Nat → Nat} {tL tH : Nat} {h h_now h_copy h_past h_slots h_saved h_text h_shown h_now_cells : Nat}  {f_remembered : Int32} {f_oldest : Int32} {f_now_cells : Nat → Int32} {K : Int32 → Prop} {KX : String → Prop}  (C0 : xC p s m args meth c cX4_about 2 (some .int) wsX4_about RX4 D (xTY cI cC cZ cL)) (hA : ∀ q : Nat, s.heap.size ≤ q → A q) (T0 : xT sf tL tH A s s.heap) (hl0 : l.stackTraces = false) (hne : ∀ x ∈ c.exceptionTable.toList, False)  : xp_X4_about_10 f_now_cells K KX  → ∀ (H : Heap) (locs : List Loc) (ls : Array Slot), va_P D vwCl [(h, .inr (4, [.ref h_now, .ref h_copy, .ref h_past, .ref h_slots, .ref h_saved, .ref h_text, .ref h_shown, .int f_remembered, .int f_oldest])), (h_now, .inr (3, [.ref h_now_cells])), (h_now_cells, .inl (cI, 400, .inl f_now_cells))] H → va_D A [(h, .inr (4, [.ref h_now, .ref h_copy, .ref h_past, .ref h_slots, .ref h_saved, .ref h_text, .ref h_shown, .int f_remembered, .int f_oldest])), (h_now, .inr (3, [.ref h_now_cells])), (h_now_cells, .inl (cI, 400, .inl f_now_cells))] → va_S A s.heap H locs → lv_has ls 2 [] → W p l e ({ frames := 7, cells := 1, slots := 6, locals := 153 } : Room) s m args below meth c H locs 0 0 (vx_MQ below (va_Qi (fun (r : Int32) (_ : Unit) => K r) (fun u t => xE D A ((fun (_ : Unit) => [(h, .inr (4, [.ref h_now, .ref h_copy, .ref h_past, .ref h_slots, .ref h_saved, .ref h_text, .ref h_shown, .int f_remembered, .int f_oldest])), (h_now, .inr (3, [.ref h_now_cells])), (h_now_cells, .inl (cI, 400, .inl f_now_cells))]) u) t) A) (vx_X (fun (_ : Unit) => True) (fun E u t => ((fun (E : String) (_ : Unit) => KX E) E u) ∧ xE D A ((fun (_ : Unit) => [(h, .inr (4, [.ref h_now, .ref h_copy, .ref h_past, .ref h_slots, .ref h_saved, .ref h_text, .ref h_shown, .int f_remembered, .int f_oldest])), (h_now, .inr (3, [.ref h_now_cells])), (h_now_cells, .inl (cI, 400, .inl f_now_cells))]) u) t) A) args s 1 6 A) (F0 m 10 ls []) := by
  obtain ⟨hx, hb, hr, hml, hown, hts, hlocks, hK, hN⟩ := id C0
  intro  hk H locs ls hP hD hS hl
  rw [xp_X4_about_10] at hk
  exact x_thr (text := "what is not 0 to 16") C0 T0 hl0 hne () hk hP hD hS hl.1 (by decide +kernel) (by decide +kernel) (by decide +kernel) xw_X4_about_IA x_ngIA x_otIA (by decide +kernel) (by decide) (Nat.le_of_ble_eq_true rfl) (by decide) (by decide) dX4_about_10 dX4_about_13 dX4_about_14 dX4_about_16 dX4_about_19
set_option maxHeartbeats 4000000 in
set_option maxRecDepth 100000 in
theorem xb_X4_about_0 {p : Program} {l : Launch} {e : Env} {s : State} {m : MethodId} {args : Array Value} {below : List Frame} {meth : Method} {c : Code} {A : Nat → Prop} {D : va_G} {cI cC cZ cL : ClassId} {sf : Nat → Nat} {tL tH : Nat} {h h_now h_copy h_past h_slots h_saved h_text h_shown h_now_cells : Nat}  {f_remembered : Int32} {f_oldest : Int32} {f_now_cells : Nat → Int32} {K : Int32 → Prop} {KX : String → Prop}  (C0 : xC p s m args meth c cX4_about 2 (some .int) wsX4_about RX4 D (xTY cI cC cZ cL)) (hA : ∀ q : Nat, s.heap.size ≤ q → A q) (T0 : xT sf tL tH A s s.heap) (hl0 : l.stackTraces = false) (hne : ∀ x ∈ c.exceptionTable.toList, False)  : ∀ (x1 : Int32) , xp_X4_about f_now_cells x1 K KX → ∀ (H : Heap) (locs : List Loc) (ls : Array Slot), va_P D vwCl [(h, .inr (4, [.ref h_now, .ref h_copy, .ref h_past, .ref h_slots, .ref h_saved, .ref h_text, .ref h_shown, .int f_remembered, .int f_oldest])), (h_now, .inr (3, [.ref h_now_cells])), (h_now_cells, .inl (cI, 400, .inl f_now_cells))] H → va_D A [(h, .inr (4, [.ref h_now, .ref h_copy, .ref h_past, .ref h_slots, .ref h_saved, .ref h_text, .ref h_shown, .int f_remembered, .int f_oldest])), (h_now, .inr (3, [.ref h_now_cells])), (h_now_cells, .inl (cI, 400, .inl f_now_cells))] → va_S A s.heap H locs → lv_has ls 2 [(0, .ref h), (1, .int x1)] → W p l e ({ frames := 7, cells := 1, slots := 6, locals := 153 } : Room) s m args below meth c H locs 0 0 (vx_MQ below (va_Qi (fun (r : Int32) (_ : Unit) => K r) (fun u t => xE D A ((fun (_ : Unit) => [(h, .inr (4, [.ref h_now, .ref h_copy, .ref h_past, .ref h_slots, .ref h_saved, .ref h_text, .ref h_shown, .int f_remembered, .int f_oldest])), (h_now, .inr (3, [.ref h_now_cells])), (h_now_cells, .inl (cI, 400, .inl f_now_cells))]) u) t) A) (vx_X (fun (_ : Unit) => True) (fun E u t => ((fun (E : String) (_ : Unit) => KX E) E u) ∧ xE D A ((fun (_ : Unit) => [(h, .inr (4, [.ref h_now, .ref h_copy, .ref h_past, .ref h_slots, .ref h_saved, .ref h_text, .ref h_shown, .int f_remembered, .int f_oldest])), (h_now, .inr (3, [.ref h_now_cells])), (h_now_cells, .inl (cI, 400, .inl f_now_cells))]) u) t) A) args s 1 6 A) (F0 m 0 ls []) := by
  obtain ⟨hx, hb, hr, hml, hown, hts, hlocks, hK, hN⟩ := id C0
  intro x1 hk H locs ls hP hD hS hl
  rw [xp_X4_about] at hk
  refine lv_iload_n hx hb dX4_about_0 rfl (lv_at hl 1 rfl) ?_
  refine lv_if_lt (tgt := 10) hx hb dX4_about_1 (by decide) (fun c1 => ?_) (fun c1 => ?_)
  · have hk := hk.1 c1
    exact xb_X4_about_10 C0 hA T0 hl0 hne   hk H locs ls hP hD hS (lv_sub hl [] rfl)
  · have hk := hk.2 c1
    refine lv_iload_n hx hb dX4_about_4 rfl (lv_at hl 1 rfl) ?_
    refine lv_bipush (v := 16) hx hb dX4_about_5 (by decide) ?_
    refine lv_icmp_le (tgt := 20) hx hb dX4_about_7 (by decide) (fun c2 => ?_) (fun c2 => ?_)
    · have hk := hk.1 c2
      refine lv_aload_n hx hb dX4_about_20 rfl (lv_at hl 0 rfl) ?_
      refine va_get (D := D) (ci := 4) (v := .ref h_now) (C := RX4) (T := TX4) (N := 9) hx hb hts xin_X4_about_X4 hown hK hP 0 rfl rfl 0 (by decide) (hts (.fieldLink RX4 12 "TakeLog" "now" "LTakeLog$State;") (by decide +kernel)) (fun _ h9 => h9) rfl dX4_about_21 ?_
      refine lv_iload_n hx hb dX4_about_24 rfl (lv_at hl 1 rfl) ?_
      refine x_joini (ws1 := fun (_ : Unit) => [(h, .inr (4, [.ref h_now, .ref h_copy, .ref h_past, .ref h_slots, .ref h_saved, .ref h_text, .ref h_shown, .int f_remembered, .int f_oldest])), (h_now, .inr (3, [.ref h_now_cells])), (h_now_cells, .inl (cI, 400, .inl f_now_cells))]) (x_runV (n0 := 1) (As := [.int x1]) (rest := []) C0 (xc_X3_total l D cI cC cZ cL h_now h_now_cells H.size f_now_cells x1 _ hk) gX4_about_X3_total rfl ⟨rfl, rfl⟩ (by decide +kernel) rfl ⟨by decide, by decide⟩ ⟨Nat.zero_le _, Nat.zero_le _⟩ hP hD [1, 2] rfl rfl (k := 1) rfl rfl rfl hl.1 rfl (Nat.le_of_ble_eq_true rfl) dX4_about_25) hP hD hS hA [1, 2] [0] [0, 1, 2] rfl rfl rfl (by decide) (fun _ => rfl) rfl (fun r3 u3 H locs hk hP hD hS => ?_)
      exact x_retiX C0 () hk hP hD hS dX4_about_28
    · have hk := hk.2 c2
      exact xb_X4_about_10 C0 hA T0 hl0 hne   hk H locs ls hP hD hS (lv_sub hl [] rfl)
theorem xc_X4_about (l : Launch) (hl0 : l.stackTraces = false) (D : va_G) (cI cC cZ cL : ClassId) (sf : Nat → Nat) (tL tH : Nat) (h h_now h_copy h_past h_slots h_saved h_text h_shown h_now_cells : Nat)  (sz : Nat) (f_remembered : Int32) (f_oldest : Int32) (f_now_cells : Nat → Int32) (x1 : Int32) (K : Int32 → Prop) (KX : String → Prop) (hk : xp_X4_about f_now_cells x1 K KX) : XMx l yX4_about wsX4_about ({ frames := 7, cells := 1, slots := 6, locals := 153 } : Room) D (xTY cI cC cZ cL) sf tL tH [.ref h, .int x1] [(h, .inr (4, [.ref h_now, .ref h_copy, .ref h_past, .ref h_slots, .ref h_saved, .ref h_text, .ref h_shown, .int f_remembered, .int f_oldest])), (h_now, .inr (3, [.ref h_now_cells])), (h_now_cells, .inl (cI, 400, .inl f_now_cells))] sz (fun (r : Int32) (_ : Unit) => K r) (fun (E : String) (_ : Unit) => KX E) (fun (_ : Unit) => [(h, .inr (4, [.ref h_now, .ref h_copy, .ref h_past, .ref h_slots, .ref h_saved, .ref h_text, .ref h_shown, .int f_remembered, .int f_oldest])), (h_now, .inr (3, [.ref h_now_cells])), (h_now_cells, .inl (cI, 400, .inl f_now_cells))]) :=
  x_enterX (cc := cX4_about) (maxL := 2) (ret := (some .int)) (own := RX4) (by decide) rfl rfl (Nat.le_of_ble_eq_true rfl) (fun p e s m below meth c ls C0 T0 hne hA hP hD hS hl => xb_X4_about_0 C0 hA T0 hl0 hne _ hk s.heap [] ls hP hD hS hl)
set_option maxRecDepth 20000 in
theorem xw_X4_take_IA : ∀ w ∈ (vx_atS RX4 53 xIA xNm).filter goodWord, w ∈ wsX4_take := by decide +kernel
set_option maxRecDepth 20000 in
theorem xw_X4_take_IO : ∀ w ∈ (vx_atS RX4 101 xIO xNm).filter goodWord, w ∈ wsX4_take := by decide +kernel
set_option maxRecDepth 20000 in
theorem xin_X4_take_X4 : ∀ w ∈ u_ws RX4 TX4 9, w ∈ wsX4_take := by decide +kernel
set_option maxRecDepth 20000 in
theorem xin_X4_take_X3 : ∀ w ∈ u_ws RX3 TX3 1, w ∈ wsX4_take := by decide +kernel
set_option maxHeartbeats 4000000 in
set_option maxRecDepth 100000 in
theorem xb_X4_take_31 {p : Program} {l : Launch} {e : Env} {s : State} {m : MethodId} {args : Array Value} {below : List Frame} {meth : Method} {c : Code} {A : Nat → Prop} {D : va_G} {cI cC cZ cL : ClassId} {sf : Nat → Nat} {tL tH : Nat} {h h_now h_copy h_past h_slots h_saved h_text h_shown h_now_cells : Nat}  {f_remembered : Int32} {f_oldest : Int32} {f_now_cells : Nat → Int32} {K : Int32 → Prop} {KX : String → Prop}  (C0 : xC p s m args meth c cX4_take 3 (some .int) wsX4_take RX4 D (xTY cI cC cZ cL)) (hA : ∀ q : Nat, s.heap.size ≤ q → A q) (T0 : xT sf tL tH A s s.heap) (hl0 : l.stackTraces = false) (hne : ∀ x ∈ c.exceptionTable.toList, False)  : xp_X4_take_31 f_now_cells K KX  → ∀ (H : Heap) (locs : List Loc) (ls : Array Slot), va_P D vwCl [(h, .inr (4, [.ref h_now, .ref h_copy, .ref h_past, .ref h_slots, .ref h_saved, .ref h_text, .ref h_shown, .int f_remembered, .int f_oldest])), (h_now, .inr (3, [.ref h_now_cells])), (h_now_cells, .inl (cI, 400, .inl f_now_cells))] H → va_D A [(h, .inr (4, [.ref h_now, .ref h_copy, .ref h_past, .ref h_slots, .ref h_saved, .ref h_text, .ref h_shown, .int f_remembered, .int f_oldest])), (h_now, .inr (3, [.ref h_now_cells])), (h_now_cells, .inl (cI, 400, .inl f_now_cells))] → va_S A s.heap H locs → lv_has ls 3 [] → W p l e ({ frames := 6, cells := 1, slots := 6, locals := 112 } : Room) s m args below meth c H locs 0 0 (vx_MQ below (va_Qi (fun (r : Int32) (_ : Unit) => K r) (fun u t => xE D A ((fun (_ : Unit) => [(h, .inr (4, [.ref h_now, .ref h_copy, .ref h_past, .ref h_slots, .ref h_saved, .ref h_text, .ref h_shown, .int f_remembered, .int f_oldest])), (h_now, .inr (3, [.ref h_now_cells])), (h_now_cells, .inl (cI, 400, .inl f_now_cells))]) u) t) A) (vx_X (fun (_ : Unit) => True) (fun E u t => ((fun (E : String) (_ : Unit) => KX E) E u) ∧ xE D A ((fun (_ : Unit) => [(h, .inr (4, [.ref h_now, .ref h_copy, .ref h_past, .ref h_slots, .ref h_saved, .ref h_text, .ref h_shown, .int f_remembered, .int f_oldest])), (h_now, .inr (3, [.ref h_now_cells])), (h_now_cells, .inl (cI, 400, .inl f_now_cells))]) u) t) A) args s 1 6 A) (F0 m 31 ls []) := by
  obtain ⟨hx, hb, hr, hml, hown, hts, hlocks, hK, hN⟩ := id C0
  intro  hk H locs ls hP hD hS hl
  rw [xp_X4_take_31] at hk
  exact x_thr (text := "what is not 0 to 16") C0 T0 hl0 hne () hk hP hD hS hl.1 (by decide +kernel) (by decide +kernel) (by decide +kernel) xw_X4_take_IA x_ngIA x_otIA (by decide +kernel) (by decide) (Nat.le_of_ble_eq_true rfl) (by decide) (by decide) dX4_take_31 dX4_take_34 dX4_take_35 dX4_take_37 dX4_take_40
set_option maxHeartbeats 4000000 in
set_option maxRecDepth 100000 in
theorem xb_X4_take_0 {p : Program} {l : Launch} {e : Env} {s : State} {m : MethodId} {args : Array Value} {below : List Frame} {meth : Method} {c : Code} {A : Nat → Prop} {D : va_G} {cI cC cZ cL : ClassId} {sf : Nat → Nat} {tL tH : Nat} {h h_now h_copy h_past h_slots h_saved h_text h_shown h_now_cells : Nat}  {f_remembered : Int32} {f_oldest : Int32} {f_now_cells : Nat → Int32} {K : Int32 → Prop} {KX : String → Prop}  (C0 : xC p s m args meth c cX4_take 3 (some .int) wsX4_take RX4 D (xTY cI cC cZ cL)) (hA : ∀ q : Nat, s.heap.size ≤ q → A q) (T0 : xT sf tL tH A s s.heap) (hl0 : l.stackTraces = false) (hne : ∀ x ∈ c.exceptionTable.toList, False)  : ∀ (x1 : Int32) (x2 : Int32) , xp_X4_take f_now_cells x1 x2 K KX → ∀ (H : Heap) (locs : List Loc) (ls : Array Slot), va_P D vwCl [(h, .inr (4, [.ref h_now, .ref h_copy, .ref h_past, .ref h_slots, .ref h_saved, .ref h_text, .ref h_shown, .int f_remembered, .int f_oldest])), (h_now, .inr (3, [.ref h_now_cells])), (h_now_cells, .inl (cI, 400, .inl f_now_cells))] H → va_D A [(h, .inr (4, [.ref h_now, .ref h_copy, .ref h_past, .ref h_slots, .ref h_saved, .ref h_text, .ref h_shown, .int f_remembered, .int f_oldest])), (h_now, .inr (3, [.ref h_now_cells])), (h_now_cells, .inl (cI, 400, .inl f_now_cells))] → va_S A s.heap H locs → lv_has ls 3 [(0, .ref h), (1, .int x1), (2, .int x2)] → W p l e ({ frames := 6, cells := 1, slots := 6, locals := 112 } : Room) s m args below meth c H locs 0 0 (vx_MQ below (va_Qi (fun (r : Int32) (_ : Unit) => K r) (fun u t => xE D A ((fun (_ : Unit) => [(h, .inr (4, [.ref h_now, .ref h_copy, .ref h_past, .ref h_slots, .ref h_saved, .ref h_text, .ref h_shown, .int f_remembered, .int f_oldest])), (h_now, .inr (3, [.ref h_now_cells])), (h_now_cells, .inl (cI, 400, .inl f_now_cells))]) u) t) A) (vx_X (fun (_ : Unit) => True) (fun E u t => ((fun (E : String) (_ : Unit) => KX E) E u) ∧ xE D A ((fun (_ : Unit) => [(h, .inr (4, [.ref h_now, .ref h_copy, .ref h_past, .ref h_slots, .ref h_saved, .ref h_text, .ref h_shown, .int f_remembered, .int f_oldest])), (h_now, .inr (3, [.ref h_now_cells])), (h_now_cells, .inl (cI, 400, .inl f_now_cells))]) u) t) A) args s 1 6 A) (F0 m 0 ls []) := by
  obtain ⟨hx, hb, hr, hml, hown, hts, hlocks, hK, hN⟩ := id C0
  intro x1 x2 hk H locs ls hP hD hS hl
  rw [xp_X4_take] at hk
  refine lv_aload_n hx hb dX4_take_0 rfl (lv_at hl 0 rfl) ?_
  refine va_get (D := D) (ci := 4) (v := .ref h_now) (C := RX4) (T := TX4) (N := 9) hx hb hts xin_X4_take_X4 hown hK hP 0 rfl rfl 0 (by decide) (hts (.fieldLink RX4 12 "TakeLog" "now" "LTakeLog$State;") (by decide +kernel)) (fun _ h9 => h9) rfl dX4_take_1 ?_
  refine lv_iload_n hx hb dX4_take_4 rfl (lv_at hl 1 rfl) ?_
  refine x_joini (ws1 := fun (_ : Unit) => [(h, .inr (4, [.ref h_now, .ref h_copy, .ref h_past, .ref h_slots, .ref h_saved, .ref h_text, .ref h_shown, .int f_remembered, .int f_oldest])), (h_now, .inr (3, [.ref h_now_cells])), (h_now_cells, .inl (cI, 400, .inl f_now_cells))]) (x_runV (n0 := 1) (As := [.int x1]) (rest := []) C0 (xc_X3_hasTake l D cI cC cZ cL h_now h_now_cells H.size f_now_cells x1 _ hk) gX4_take_X3_hasTake rfl ⟨rfl, rfl⟩ (by decide +kernel) rfl ⟨by decide, by decide⟩ ⟨Nat.zero_le _, Nat.zero_le _⟩ hP hD [1, 2] rfl rfl (k := 1) rfl rfl rfl hl.1 rfl (Nat.le_of_ble_eq_true rfl) dX4_take_5) hP hD hS hA [1, 2] [0] [0, 1, 2] rfl rfl rfl (by decide) (fun _ => rfl) rfl (fun r1 u1 H locs hk hP hD hS => ?_)
  refine lv_if_ne (tgt := 21) hx hb dX4_take_8 (by decide) (fun c2 => ?_) (fun c2 => ?_)
  · have hk := hk.1 c2
    refine lv_iload_n hx hb dX4_take_21 rfl (lv_at hl 2 rfl) ?_
    refine lv_if_lt (tgt := 31) hx hb dX4_take_22 (by decide) (fun c3 => ?_) (fun c3 => ?_)
    · have hk := hk.1 c3
      exact xb_X4_take_31 C0 hA T0 hl0 hne   hk H locs ls hP hD hS (lv_sub hl [] rfl)
    · have hk := hk.2 c3
      refine lv_iload_n hx hb dX4_take_25 rfl (lv_at hl 2 rfl) ?_
      refine lv_bipush (v := 16) hx hb dX4_take_26 (by decide) ?_
      refine lv_icmp_le (tgt := 41) hx hb dX4_take_28 (by decide) (fun c4 => ?_) (fun c4 => ?_)
      · have hk := hk.1 c4
        refine lv_aload_n hx hb dX4_take_41 rfl (lv_at hl 0 rfl) ?_
        refine va_get (D := D) (ci := 4) (v := .ref h_now) (C := RX4) (T := TX4) (N := 9) hx hb hts xin_X4_take_X4 hown hK hP 0 rfl rfl 0 (by decide) (hts (.fieldLink RX4 12 "TakeLog" "now" "LTakeLog$State;") (by decide +kernel)) (fun _ h9 => h9) rfl dX4_take_42 ?_
        refine lv_iload_n hx hb dX4_take_45 rfl (lv_at hl 1 rfl) ?_
        refine lv_iload_n hx hb dX4_take_46 rfl (lv_at hl 2 rfl) ?_
        refine x_joini (ws1 := fun (_ : Unit) => [(h, .inr (4, [.ref h_now, .ref h_copy, .ref h_past, .ref h_slots, .ref h_saved, .ref h_text, .ref h_shown, .int f_remembered, .int f_oldest])), (h_now, .inr (3, [.ref h_now_cells])), (h_now_cells, .inl (cI, 400, .inl f_now_cells))]) (x_runV (n0 := 2) (As := [.int x1, .int x2]) (rest := []) C0 (xc_X3_told l D cI cC cZ cL h_now h_now_cells H.size f_now_cells x1 x2 _ hk) gX4_take_X3_told rfl ⟨rfl, rfl⟩ (by decide +kernel) rfl ⟨by decide, by decide⟩ ⟨Nat.zero_le _, Nat.zero_le _⟩ hP hD [1, 2] rfl rfl (k := 1) rfl rfl rfl hl.1 rfl (Nat.le_of_ble_eq_true rfl) dX4_take_47) hP hD hS hA [1, 2] [0] [0, 1, 2] rfl rfl rfl (by decide) (fun _ => rfl) rfl (fun r5 u5 H locs hk hP hD hS => ?_)
        exact x_retiX C0 () hk hP hD hS dX4_take_50
      · have hk := hk.2 c4
        exact xb_X4_take_31 C0 hA T0 hl0 hne   hk H locs ls hP hD hS (lv_sub hl [] rfl)
  · have hk := hk.2 c2
    exact x_thr (text := "there is no such take") C0 T0 hl0 hne () hk hP hD hS hl.1 (by decide +kernel) (by decide +kernel) (by decide +kernel) xw_X4_take_IO x_ngIO x_otIO (by decide +kernel) (by decide) (Nat.le_of_ble_eq_true rfl) (by decide) (by decide) dX4_take_11 dX4_take_14 dX4_take_15 dX4_take_17 dX4_take_20
theorem xc_X4_take (l : Launch) (hl0 : l.stackTraces = false) (D : va_G) (cI cC cZ cL : ClassId) (sf : Nat → Nat) (tL tH : Nat) (h h_now h_copy h_past h_slots h_saved h_text h_shown h_now_cells : Nat)  (sz : Nat) (f_remembered : Int32) (f_oldest : Int32) (f_now_cells : Nat → Int32) (x1 : Int32) (x2 : Int32) (K : Int32 → Prop) (KX : String → Prop) (hk : xp_X4_take f_now_cells x1 x2 K KX) : XMx l yX4_take wsX4_take ({ frames := 6, cells := 1, slots := 6, locals := 112 } : Room) D (xTY cI cC cZ cL) sf tL tH [.ref h, .int x1, .int x2] [(h, .inr (4, [.ref h_now, .ref h_copy, .ref h_past, .ref h_slots, .ref h_saved, .ref h_text, .ref h_shown, .int f_remembered, .int f_oldest])), (h_now, .inr (3, [.ref h_now_cells])), (h_now_cells, .inl (cI, 400, .inl f_now_cells))] sz (fun (r : Int32) (_ : Unit) => K r) (fun (E : String) (_ : Unit) => KX E) (fun (_ : Unit) => [(h, .inr (4, [.ref h_now, .ref h_copy, .ref h_past, .ref h_slots, .ref h_saved, .ref h_text, .ref h_shown, .int f_remembered, .int f_oldest])), (h_now, .inr (3, [.ref h_now_cells])), (h_now_cells, .inl (cI, 400, .inl f_now_cells))]) :=
  x_enterX (cc := cX4_take) (maxL := 3) (ret := (some .int)) (own := RX4) (by decide) rfl rfl (Nat.le_of_ble_eq_true rfl) (fun p e s m below meth c ls C0 T0 hne hA hP hD hS hl => xb_X4_take_0 C0 hA T0 hl0 hne _ _ hk s.heap [] ls hP hD hS hl)
set_option maxRecDepth 20000 in
theorem xw_X4_line_IA : ∀ w ∈ (vx_atS RX4 53 xIA xNm).filter goodWord, w ∈ wsX4_line := by decide +kernel
set_option maxRecDepth 20000 in
theorem xw_X4_line_IO : ∀ w ∈ (vx_atS RX4 101 xIO xNm).filter goodWord, w ∈ wsX4_line := by decide +kernel
set_option maxRecDepth 20000 in
theorem xin_X4_line_X1 : ∀ w ∈ u_ws RX1 TX1 2, w ∈ wsX4_line := by decide +kernel
set_option maxRecDepth 20000 in
theorem xin_X4_line_X3 : ∀ w ∈ u_ws RX3 TX3 1, w ∈ wsX4_line := by decide +kernel
set_option maxRecDepth 20000 in
theorem xin_X4_line_X4 : ∀ w ∈ u_ws RX4 TX4 9, w ∈ wsX4_line := by decide +kernel
set_option maxHeartbeats 4000000 in
set_option maxRecDepth 100000 in
theorem xb_X4_line_0 {p : Program} {l : Launch} {e : Env} {s : State} {m : MethodId} {args : Array Value} {below : List Frame} {meth : Method} {c : Code} {A : Nat → Prop} {D : va_G} {cI cC cZ cL : ClassId} {sf : Nat → Nat} {tL tH : Nat} {h h_now h_copy h_past h_slots h_saved h_text h_shown h_now_cells h_shown_signs : Nat}  {f_remembered : Int32} {f_oldest : Int32} {f_now_cells : Nat → Int32} {K : Int32 → ((Nat → Int32) × Int32) → Prop} {KX : String → ((Nat → Int32) × Int32) → Prop}  (C0 : xC p s m args meth c cX4_line 3 (some .int) wsX4_line RX4 D (xTY cI cC cZ cL)) (hA : ∀ q : Nat, s.heap.size ≤ q → A q) (T0 : xT sf tL tH A s s.heap) (hl0 : l.stackTraces = false) (hne : ∀ x ∈ c.exceptionTable.toList, False)  : ∀ (f_shown_signs : Nat → Int32) (f_shown_length : Int32) (x1 : Int32) (x2 : Int32) , xp_X4_line f_now_cells f_shown_signs f_shown_length x1 x2 K KX → ∀ (H : Heap) (locs : List Loc) (ls : Array Slot), va_P D vwCl [(h, .inr (4, [.ref h_now, .ref h_copy, .ref h_past, .ref h_slots, .ref h_saved, .ref h_text, .ref h_shown, .int f_remembered, .int f_oldest])), (h_now, .inr (3, [.ref h_now_cells])), (h_now_cells, .inl (cI, 400, .inl f_now_cells)), (h_shown, .inr (1, [.ref h_shown_signs, .int f_shown_length])), (h_shown_signs, .inl (cC, 80, .inl f_shown_signs))] H → va_D A [(h, .inr (4, [.ref h_now, .ref h_copy, .ref h_past, .ref h_slots, .ref h_saved, .ref h_text, .ref h_shown, .int f_remembered, .int f_oldest])), (h_now, .inr (3, [.ref h_now_cells])), (h_now_cells, .inl (cI, 400, .inl f_now_cells)), (h_shown, .inr (1, [.ref h_shown_signs, .int f_shown_length])), (h_shown_signs, .inl (cC, 80, .inl f_shown_signs))] → va_S A s.heap H locs → lv_has ls 3 [(0, .ref h), (1, .int x1), (2, .int x2)] → W p l e ({ frames := 6, cells := 1, slots := 6, locals := 112 } : Room) s m args below meth c H locs 0 0 (vx_MQ below (va_Qi (fun (r : Int32) (u : (Nat → Int32) × Int32) => K r u) (fun u t => xE D A ((fun (u : (Nat → Int32) × Int32) => [(h, .inr (4, [.ref h_now, .ref h_copy, .ref h_past, .ref h_slots, .ref h_saved, .ref h_text, .ref h_shown, .int f_remembered, .int f_oldest])), (h_now, .inr (3, [.ref h_now_cells])), (h_now_cells, .inl (cI, 400, .inl f_now_cells)), (h_shown, .inr (1, [.ref h_shown_signs, .int u.2])), (h_shown_signs, .inl (cC, 80, .inl u.1))]) u) t) A) (vx_X (fun (_ : (Nat → Int32) × Int32) => True) (fun E u t => ((fun (E : String) (u : (Nat → Int32) × Int32) => KX E u) E u) ∧ xE D A ((fun (u : (Nat → Int32) × Int32) => [(h, .inr (4, [.ref h_now, .ref h_copy, .ref h_past, .ref h_slots, .ref h_saved, .ref h_text, .ref h_shown, .int f_remembered, .int f_oldest])), (h_now, .inr (3, [.ref h_now_cells])), (h_now_cells, .inl (cI, 400, .inl f_now_cells)), (h_shown, .inr (1, [.ref h_shown_signs, .int u.2])), (h_shown_signs, .inl (cC, 80, .inl u.1))]) u) t) A) args s 1 6 A) (F0 m 0 ls []) := by
  obtain ⟨hx, hb, hr, hml, hown, hts, hlocks, hK, hN⟩ := id C0
  intro f_shown_signs f_shown_length x1 x2 hk H locs ls hP hD hS hl
  rw [xp_X4_line] at hk
  refine lv_aload_n hx hb dX4_line_0 rfl (lv_at hl 0 rfl) ?_
  refine va_get (D := D) (ci := 4) (v := .ref h_now) (C := RX4) (T := TX4) (N := 9) hx hb hts xin_X4_line_X4 hown hK hP 0 rfl rfl 0 (by decide) (hts (.fieldLink RX4 12 "TakeLog" "now" "LTakeLog$State;") (by decide +kernel)) (fun _ h9 => h9) rfl dX4_line_1 ?_
  refine lv_iload_n hx hb dX4_line_4 rfl (lv_at hl 1 rfl) ?_
  refine x_joini (ws1 := fun (_ : Unit) => [(h, .inr (4, [.ref h_now, .ref h_copy, .ref h_past, .ref h_slots, .ref h_saved, .ref h_text, .ref h_shown, .int f_remembered, .int f_oldest])), (h_now, .inr (3, [.ref h_now_cells])), (h_now_cells, .inl (cI, 400, .inl f_now_cells)), (h_shown, .inr (1, [.ref h_shown_signs, .int f_shown_length])), (h_shown_signs, .inl (cC, 80, .inl f_shown_signs))]) (x_runV (n0 := 1) (As := [.int x1]) (rest := []) C0 (xc_X3_hasTake l D cI cC cZ cL h_now h_now_cells H.size f_now_cells x1 _ hk) gX4_line_X3_hasTake rfl ⟨rfl, rfl⟩ (by decide +kernel) rfl ⟨by decide, by decide⟩ ⟨Nat.zero_le _, Nat.zero_le _⟩ hP hD [1, 2] rfl rfl (k := 1) rfl rfl rfl hl.1 rfl (Nat.le_of_ble_eq_true rfl) dX4_line_5) hP hD hS hA [1, 2] [0, 3, 4] [0, 3, 4, 1, 2] rfl rfl rfl (by decide) (fun _ => rfl) rfl (fun r1 u1 H locs hk hP hD hS => ?_)
  refine lv_if_ne (tgt := 21) hx hb dX4_line_8 (by decide) (fun c2 => ?_) (fun c2 => ?_)
  · have hk := hk.1 c2
    refine lv_iload_n hx hb dX4_line_21 rfl (lv_at hl 2 rfl) ?_
    refine lv_if_ge (tgt := 35) hx hb dX4_line_22 (by decide) (fun c3 => ?_) (fun c3 => ?_)
    · have hk := hk.1 c3
      refine lv_aload_n hx hb dX4_line_35 rfl (lv_at hl 0 rfl) ?_
      refine va_get (D := D) (ci := 4) (v := .ref h_shown) (C := RX4) (T := TX4) (N := 9) hx hb hts xin_X4_line_X4 hown hK hP 0 rfl rfl 6 (by decide) (hts (.fieldLink RX4 45 "TakeLog" "shown" "LTakeLog$Line;") (by decide +kernel)) (fun _ h9 => h9) rfl dX4_line_36 ?_
      refine lv_aload_n hx hb dX4_line_39 rfl (lv_at hl 0 rfl) ?_
      refine va_get (D := D) (ci := 4) (v := .ref h_now) (C := RX4) (T := TX4) (N := 9) hx hb hts xin_X4_line_X4 hown hK hP 0 rfl rfl 0 (by decide) (hts (.fieldLink RX4 12 "TakeLog" "now" "LTakeLog$State;") (by decide +kernel)) (fun _ h9 => h9) rfl dX4_line_40 ?_
      refine lv_iload_n hx hb dX4_line_43 rfl (lv_at hl 1 rfl) ?_
      refine x_joinv (ws1 := fun (u4 : (Nat → Int32) × Int32) => [(h, .inr (4, [.ref h_now, .ref h_copy, .ref h_past, .ref h_slots, .ref h_saved, .ref h_text, .ref h_shown, .int f_remembered, .int f_oldest])), (h_now, .inr (3, [.ref h_now_cells])), (h_now_cells, .inl (cI, 400, .inl f_now_cells)), (h_shown, .inr (1, [.ref h_shown_signs, .int u4.2])), (h_shown_signs, .inl (cC, 80, .inl u4.1))]) (x_runV (n0 := 2) (As := [.ref h_now, .int x1]) (rest := []) C0 (xc_X1_write l D cI cC cZ cL h_shown h_shown_signs h_now h_now_cells H.size f_shown_length f_shown_signs f_now_cells x1 _ hk) gX4_line_X1_write rfl ⟨rfl, rfl⟩ (by decide +kernel) rfl ⟨by decide, by decide⟩ ⟨Nat.zero_le _, Nat.zero_le _⟩ hP hD [3, 4, 1, 2] rfl rfl (k := 3) rfl rfl rfl hl.1 rfl (Nat.le_of_ble_eq_true rfl) dX4_line_44) hP hD hS hA [3, 4, 1, 2] [0] [0, 3, 4, 1, 2] rfl rfl rfl (by decide) (fun _ => rfl) rfl (fun u4 H locs hk hP hD hS => ?_)
      refine lv_aload_n hx hb dX4_line_47 rfl (lv_at hl 0 rfl) ?_
      refine va_get (D := D) (ci := 4) (v := .ref h_shown) (C := RX4) (T := TX4) (N := 9) hx hb hts xin_X4_line_X4 hown hK hP 0 rfl rfl 6 (by decide) (hts (.fieldLink RX4 45 "TakeLog" "shown" "LTakeLog$Line;") (by decide +kernel)) (fun _ h9 => h9) rfl dX4_line_48 ?_
      refine lv_iload_n hx hb dX4_line_51 rfl (lv_at hl 2 rfl) ?_
      refine x_joini (ws1 := fun (_ : Unit) => [(h, .inr (4, [.ref h_now, .ref h_copy, .ref h_past, .ref h_slots, .ref h_saved, .ref h_text, .ref h_shown, .int f_remembered, .int f_oldest])), (h_now, .inr (3, [.ref h_now_cells])), (h_now_cells, .inl (cI, 400, .inl f_now_cells)), (h_shown, .inr (1, [.ref h_shown_signs, .int u4.2])), (h_shown_signs, .inl (cC, 80, .inl u4.1))]) (x_runV (n0 := 1) (As := [.int x2]) (rest := []) C0 (xc_X1_signAt l D cI cC cZ cL h_shown h_shown_signs H.size u4.2 u4.1 x2 _ hk) gX4_line_X1_signAt rfl ⟨rfl, rfl⟩ (by decide +kernel) rfl ⟨by decide, by decide⟩ ⟨Nat.zero_le _, Nat.zero_le _⟩ hP hD [3, 4] rfl rfl (k := 3) rfl rfl rfl hl.1 rfl (Nat.le_of_ble_eq_true rfl) dX4_line_52) hP hD hS hA [3, 4] [0, 1, 2] [0, 1, 2, 3, 4] rfl rfl rfl (by decide) (fun _ => rfl) rfl (fun r5 u5 H locs hk hP hD hS => ?_)
      exact x_retiX C0 (u4.1, u4.2) hk hP hD hS dX4_line_55
    · have hk := hk.2 c3
      exact x_thr (text := "the index is negative") C0 T0 hl0 hne (f_shown_signs, f_shown_length) hk hP hD hS hl.1 (by decide +kernel) (by decide +kernel) (by decide +kernel) xw_X4_line_IA x_ngIA x_otIA (by decide +kernel) (by decide) (Nat.le_of_ble_eq_true rfl) (by decide) (by decide) dX4_line_25 dX4_line_28 dX4_line_29 dX4_line_31 dX4_line_34
  · have hk := hk.2 c2
    exact x_thr (text := "there is no such take") C0 T0 hl0 hne (f_shown_signs, f_shown_length) hk hP hD hS hl.1 (by decide +kernel) (by decide +kernel) (by decide +kernel) xw_X4_line_IO x_ngIO x_otIO (by decide +kernel) (by decide) (Nat.le_of_ble_eq_true rfl) (by decide) (by decide) dX4_line_11 dX4_line_14 dX4_line_15 dX4_line_17 dX4_line_20
theorem xc_X4_line (l : Launch) (hl0 : l.stackTraces = false) (D : va_G) (cI cC cZ cL : ClassId) (sf : Nat → Nat) (tL tH : Nat) (h h_now h_copy h_past h_slots h_saved h_text h_shown h_now_cells h_shown_signs : Nat)  (sz : Nat) (f_remembered : Int32) (f_oldest : Int32) (f_now_cells : Nat → Int32) (f_shown_length : Int32) (f_shown_signs : Nat → Int32) (x1 : Int32) (x2 : Int32) (K : Int32 → ((Nat → Int32) × Int32) → Prop) (KX : String → ((Nat → Int32) × Int32) → Prop) (hk : xp_X4_line f_now_cells f_shown_signs f_shown_length x1 x2 K KX) : XMx l yX4_line wsX4_line ({ frames := 6, cells := 1, slots := 6, locals := 112 } : Room) D (xTY cI cC cZ cL) sf tL tH [.ref h, .int x1, .int x2] [(h, .inr (4, [.ref h_now, .ref h_copy, .ref h_past, .ref h_slots, .ref h_saved, .ref h_text, .ref h_shown, .int f_remembered, .int f_oldest])), (h_now, .inr (3, [.ref h_now_cells])), (h_now_cells, .inl (cI, 400, .inl f_now_cells)), (h_shown, .inr (1, [.ref h_shown_signs, .int f_shown_length])), (h_shown_signs, .inl (cC, 80, .inl f_shown_signs))] sz (fun (r : Int32) (u : (Nat → Int32) × Int32) => K r u) (fun (E : String) (u : (Nat → Int32) × Int32) => KX E u) (fun (u : (Nat → Int32) × Int32) => [(h, .inr (4, [.ref h_now, .ref h_copy, .ref h_past, .ref h_slots, .ref h_saved, .ref h_text, .ref h_shown, .int f_remembered, .int f_oldest])), (h_now, .inr (3, [.ref h_now_cells])), (h_now_cells, .inl (cI, 400, .inl f_now_cells)), (h_shown, .inr (1, [.ref h_shown_signs, .int u.2])), (h_shown_signs, .inl (cC, 80, .inl u.1))]) :=
  x_enterX (cc := cX4_line) (maxL := 3) (ret := (some .int)) (own := RX4) (by decide) rfl rfl (Nat.le_of_ble_eq_true rfl) (fun p e s m below meth c ls C0 T0 hne hA hP hD hS hl => xb_X4_line_0 C0 hA T0 hl0 hne _ _ _ _ hk s.heap [] ls hP hD hS hl)
set_option maxRecDepth 20000 in
theorem xw_X4_setting_IA : ∀ w ∈ (vx_atS RX4 53 xIA xNm).filter goodWord, w ∈ wsX4_setting := by decide +kernel
set_option maxRecDepth 20000 in
theorem xin_X4_setting_X4 : ∀ w ∈ u_ws RX4 TX4 9, w ∈ wsX4_setting := by decide +kernel
set_option maxRecDepth 20000 in
theorem xin_X4_setting_X3 : ∀ w ∈ u_ws RX3 TX3 1, w ∈ wsX4_setting := by decide +kernel
set_option maxHeartbeats 4000000 in
set_option maxRecDepth 100000 in
theorem xb_X4_setting_9 {p : Program} {l : Launch} {e : Env} {s : State} {m : MethodId} {args : Array Value} {below : List Frame} {meth : Method} {c : Code} {A : Nat → Prop} {D : va_G} {cI cC cZ cL : ClassId} {sf : Nat → Nat} {tL tH : Nat} {h h_now h_copy h_past h_slots h_saved h_text h_shown h_now_cells : Nat}  {f_remembered : Int32} {f_oldest : Int32} {f_now_cells : Nat → Int32} {K : Int32 → Prop} {KX : String → Prop}  (C0 : xC p s m args meth c cX4_setting 2 (some .int) wsX4_setting RX4 D (xTY cI cC cZ cL)) (hA : ∀ q : Nat, s.heap.size ≤ q → A q) (T0 : xT sf tL tH A s s.heap) (hl0 : l.stackTraces = false) (hne : ∀ x ∈ c.exceptionTable.toList, False)  : xp_X4_setting_9 f_now_cells K KX  → ∀ (H : Heap) (locs : List Loc) (ls : Array Slot), va_P D vwCl [(h, .inr (4, [.ref h_now, .ref h_copy, .ref h_past, .ref h_slots, .ref h_saved, .ref h_text, .ref h_shown, .int f_remembered, .int f_oldest])), (h_now, .inr (3, [.ref h_now_cells])), (h_now_cells, .inl (cI, 400, .inl f_now_cells))] H → va_D A [(h, .inr (4, [.ref h_now, .ref h_copy, .ref h_past, .ref h_slots, .ref h_saved, .ref h_text, .ref h_shown, .int f_remembered, .int f_oldest])), (h_now, .inr (3, [.ref h_now_cells])), (h_now_cells, .inl (cI, 400, .inl f_now_cells))] → va_S A s.heap H locs → lv_has ls 2 [] → W p l e ({ frames := 6, cells := 1, slots := 6, locals := 92 } : Room) s m args below meth c H locs 0 0 (vx_MQ below (va_Qi (fun (r : Int32) (_ : Unit) => K r) (fun u t => xE D A ((fun (_ : Unit) => [(h, .inr (4, [.ref h_now, .ref h_copy, .ref h_past, .ref h_slots, .ref h_saved, .ref h_text, .ref h_shown, .int f_remembered, .int f_oldest])), (h_now, .inr (3, [.ref h_now_cells])), (h_now_cells, .inl (cI, 400, .inl f_now_cells))]) u) t) A) (vx_X (fun (_ : Unit) => True) (fun E u t => ((fun (E : String) (_ : Unit) => KX E) E u) ∧ xE D A ((fun (_ : Unit) => [(h, .inr (4, [.ref h_now, .ref h_copy, .ref h_past, .ref h_slots, .ref h_saved, .ref h_text, .ref h_shown, .int f_remembered, .int f_oldest])), (h_now, .inr (3, [.ref h_now_cells])), (h_now_cells, .inl (cI, 400, .inl f_now_cells))]) u) t) A) args s 1 6 A) (F0 m 9 ls []) := by
  obtain ⟨hx, hb, hr, hml, hown, hts, hlocks, hK, hN⟩ := id C0
  intro  hk H locs ls hP hD hS hl
  rw [xp_X4_setting_9] at hk
  exact x_thr (text := "what is not 0 to 3") C0 T0 hl0 hne () hk hP hD hS hl.1 (by decide +kernel) (by decide +kernel) (by decide +kernel) xw_X4_setting_IA x_ngIA x_otIA (by decide +kernel) (by decide) (Nat.le_of_ble_eq_true rfl) (by decide) (by decide) dX4_setting_9 dX4_setting_12 dX4_setting_13 dX4_setting_15 dX4_setting_18
set_option maxHeartbeats 4000000 in
set_option maxRecDepth 100000 in
theorem xb_X4_setting_0 {p : Program} {l : Launch} {e : Env} {s : State} {m : MethodId} {args : Array Value} {below : List Frame} {meth : Method} {c : Code} {A : Nat → Prop} {D : va_G} {cI cC cZ cL : ClassId} {sf : Nat → Nat} {tL tH : Nat} {h h_now h_copy h_past h_slots h_saved h_text h_shown h_now_cells : Nat}  {f_remembered : Int32} {f_oldest : Int32} {f_now_cells : Nat → Int32} {K : Int32 → Prop} {KX : String → Prop}  (C0 : xC p s m args meth c cX4_setting 2 (some .int) wsX4_setting RX4 D (xTY cI cC cZ cL)) (hA : ∀ q : Nat, s.heap.size ≤ q → A q) (T0 : xT sf tL tH A s s.heap) (hl0 : l.stackTraces = false) (hne : ∀ x ∈ c.exceptionTable.toList, False)  : ∀ (x1 : Int32) , xp_X4_setting f_now_cells x1 K KX → ∀ (H : Heap) (locs : List Loc) (ls : Array Slot), va_P D vwCl [(h, .inr (4, [.ref h_now, .ref h_copy, .ref h_past, .ref h_slots, .ref h_saved, .ref h_text, .ref h_shown, .int f_remembered, .int f_oldest])), (h_now, .inr (3, [.ref h_now_cells])), (h_now_cells, .inl (cI, 400, .inl f_now_cells))] H → va_D A [(h, .inr (4, [.ref h_now, .ref h_copy, .ref h_past, .ref h_slots, .ref h_saved, .ref h_text, .ref h_shown, .int f_remembered, .int f_oldest])), (h_now, .inr (3, [.ref h_now_cells])), (h_now_cells, .inl (cI, 400, .inl f_now_cells))] → va_S A s.heap H locs → lv_has ls 2 [(0, .ref h), (1, .int x1)] → W p l e ({ frames := 6, cells := 1, slots := 6, locals := 92 } : Room) s m args below meth c H locs 0 0 (vx_MQ below (va_Qi (fun (r : Int32) (_ : Unit) => K r) (fun u t => xE D A ((fun (_ : Unit) => [(h, .inr (4, [.ref h_now, .ref h_copy, .ref h_past, .ref h_slots, .ref h_saved, .ref h_text, .ref h_shown, .int f_remembered, .int f_oldest])), (h_now, .inr (3, [.ref h_now_cells])), (h_now_cells, .inl (cI, 400, .inl f_now_cells))]) u) t) A) (vx_X (fun (_ : Unit) => True) (fun E u t => ((fun (E : String) (_ : Unit) => KX E) E u) ∧ xE D A ((fun (_ : Unit) => [(h, .inr (4, [.ref h_now, .ref h_copy, .ref h_past, .ref h_slots, .ref h_saved, .ref h_text, .ref h_shown, .int f_remembered, .int f_oldest])), (h_now, .inr (3, [.ref h_now_cells])), (h_now_cells, .inl (cI, 400, .inl f_now_cells))]) u) t) A) args s 1 6 A) (F0 m 0 ls []) := by
  obtain ⟨hx, hb, hr, hml, hown, hts, hlocks, hK, hN⟩ := id C0
  intro x1 hk H locs ls hP hD hS hl
  rw [xp_X4_setting] at hk
  refine lv_iload_n hx hb dX4_setting_0 rfl (lv_at hl 1 rfl) ?_
  refine lv_if_lt (tgt := 9) hx hb dX4_setting_1 (by decide) (fun c1 => ?_) (fun c1 => ?_)
  · have hk := hk.1 c1
    exact xb_X4_setting_9 C0 hA T0 hl0 hne   hk H locs ls hP hD hS (lv_sub hl [] rfl)
  · have hk := hk.2 c1
    refine lv_iload_n hx hb dX4_setting_4 rfl (lv_at hl 1 rfl) ?_
    refine lv_iconst (v := 3) hx hb dX4_setting_5 (by decide) ?_
    refine lv_icmp_le (tgt := 19) hx hb dX4_setting_6 (by decide) (fun c2 => ?_) (fun c2 => ?_)
    · have hk := hk.1 c2
      refine lv_aload_n hx hb dX4_setting_19 rfl (lv_at hl 0 rfl) ?_
      refine va_get (D := D) (ci := 4) (v := .ref h_now) (C := RX4) (T := TX4) (N := 9) hx hb hts xin_X4_setting_X4 hown hK hP 0 rfl rfl 0 (by decide) (hts (.fieldLink RX4 12 "TakeLog" "now" "LTakeLog$State;") (by decide +kernel)) (fun _ h9 => h9) rfl dX4_setting_20 ?_
      refine lv_iload_n hx hb dX4_setting_23 rfl (lv_at hl 1 rfl) ?_
      refine x_joini (ws1 := fun (_ : Unit) => [(h, .inr (4, [.ref h_now, .ref h_copy, .ref h_past, .ref h_slots, .ref h_saved, .ref h_text, .ref h_shown, .int f_remembered, .int f_oldest])), (h_now, .inr (3, [.ref h_now_cells])), (h_now_cells, .inl (cI, 400, .inl f_now_cells))]) (x_runV (n0 := 1) (As := [.int x1]) (rest := []) C0 (xc_X3_chosen l D cI cC cZ cL h_now h_now_cells H.size f_now_cells x1 _ hk) gX4_setting_X3_chosen rfl ⟨rfl, rfl⟩ (by decide +kernel) rfl ⟨by decide, by decide⟩ ⟨Nat.zero_le _, Nat.zero_le _⟩ hP hD [1, 2] rfl rfl (k := 1) rfl rfl rfl hl.1 rfl (Nat.le_of_ble_eq_true rfl) dX4_setting_24) hP hD hS hA [1, 2] [0] [0, 1, 2] rfl rfl rfl (by decide) (fun _ => rfl) rfl (fun r3 u3 H locs hk hP hD hS => ?_)
      exact x_retiX C0 () hk hP hD hS dX4_setting_27
    · have hk := hk.2 c2
      exact xb_X4_setting_9 C0 hA T0 hl0 hne   hk H locs ls hP hD hS (lv_sub hl [] rfl)
theorem xc_X4_setting (l : Launch) (hl0 : l.stackTraces = false) (D : va_G) (cI cC cZ cL : ClassId) (sf : Nat → Nat) (tL tH : Nat) (h h_now h_copy h_past h_slots h_saved h_text h_shown h_now_cells : Nat)  (sz : Nat) (f_remembered : Int32) (f_oldest : Int32) (f_now_cells : Nat → Int32) (x1 : Int32) (K : Int32 → Prop) (KX : String → Prop) (hk : xp_X4_setting f_now_cells x1 K KX) : XMx l yX4_setting wsX4_setting ({ frames := 6, cells := 1, slots := 6, locals := 92 } : Room) D (xTY cI cC cZ cL) sf tL tH [.ref h, .int x1] [(h, .inr (4, [.ref h_now, .ref h_copy, .ref h_past, .ref h_slots, .ref h_saved, .ref h_text, .ref h_shown, .int f_remembered, .int f_oldest])), (h_now, .inr (3, [.ref h_now_cells])), (h_now_cells, .inl (cI, 400, .inl f_now_cells))] sz (fun (r : Int32) (_ : Unit) => K r) (fun (E : String) (_ : Unit) => KX E) (fun (_ : Unit) => [(h, .inr (4, [.ref h_now, .ref h_copy, .ref h_past, .ref h_slots, .ref h_saved, .ref h_text, .ref h_shown, .int f_remembered, .int f_oldest])), (h_now, .inr (3, [.ref h_now_cells])), (h_now_cells, .inl (cI, 400, .inl f_now_cells))]) :=
  x_enterX (cc := cX4_setting) (maxL := 2) (ret := (some .int)) (own := RX4) (by decide) rfl rfl (Nat.le_of_ble_eq_true rfl) (fun p e s m below meth c ls C0 T0 hne hA hP hD hS hl => xb_X4_setting_0 C0 hA T0 hl0 hne _ hk s.heap [] ls hP hD hS hl)
set_option maxRecDepth 20000 in
theorem xw_X4_call_IA : ∀ w ∈ (vx_atS RX4 53 xIA xNm).filter goodWord, w ∈ wsX4_call := by decide +kernel
set_option maxRecDepth 20000 in
theorem xin_X4_call_X2 : ∀ w ∈ u_ws RX2 TX2 2, w ∈ wsX4_call := by decide +kernel
set_option maxRecDepth 20000 in
theorem xin_X4_call_X3 : ∀ w ∈ u_ws RX3 TX3 1, w ∈ wsX4_call := by decide +kernel
set_option maxRecDepth 20000 in
theorem xin_X4_call_X4 : ∀ w ∈ u_ws RX4 TX4 9, w ∈ wsX4_call := by decide +kernel
set_option maxHeartbeats 4000000 in
set_option maxRecDepth 100000 in
theorem xb_X4_call_0 {p : Program} {l : Launch} {e : Env} {s : State} {m : MethodId} {args : Array Value} {below : List Frame} {meth : Method} {c : Code} {A : Nat → Prop} {D : va_G} {cI cC cZ cL : ClassId} {sf : Nat → Nat} {tL tH : Nat} {h h_now h_copy h_past h_slots h_saved h_text h_shown h_now_cells h_past_cells : Nat}   {K : Int32 → ((Nat → Int32) × (Nat → Int32) × Int32 × Int32) → Prop} {KX : String → ((Nat → Int32) × (Nat → Int32) × Int32 × Int32) → Prop}  (C0 : xC p s m args meth c cX4_call 3 (some .int) wsX4_call RX4 D (xTY cI cC cZ cL)) (hA : ∀ q : Nat, s.heap.size ≤ q → A q) (T0 : xT sf tL tH A s s.heap) (hl0 : l.stackTraces = false) (hne : ∀ x ∈ c.exceptionTable.toList, False)  : ∀ (f_now_cells : Nat → Int32) (f_past_cells : Nat → Int32) (f_remembered : Int32) (f_oldest : Int32) (x1 : Int32) (x2 : Int32) , xp_X4_call f_now_cells f_past_cells f_remembered f_oldest x1 x2 K KX → ∀ (H : Heap) (locs : List Loc) (ls : Array Slot), va_P D vwCl [(h, .inr (4, [.ref h_now, .ref h_copy, .ref h_past, .ref h_slots, .ref h_saved, .ref h_text, .ref h_shown, .int f_remembered, .int f_oldest])), (h_now, .inr (3, [.ref h_now_cells])), (h_now_cells, .inl (cI, 400, .inl f_now_cells)), (h_past, .inr (2, [.ref h_past_cells, .int 14])), (h_past_cells, .inl (cI, 5600, .inl f_past_cells))] H → va_D A [(h, .inr (4, [.ref h_now, .ref h_copy, .ref h_past, .ref h_slots, .ref h_saved, .ref h_text, .ref h_shown, .int f_remembered, .int f_oldest])), (h_now, .inr (3, [.ref h_now_cells])), (h_now_cells, .inl (cI, 400, .inl f_now_cells)), (h_past, .inr (2, [.ref h_past_cells, .int 14])), (h_past_cells, .inl (cI, 5600, .inl f_past_cells))] → va_S A s.heap H locs → lv_has ls 3 [(0, .ref h), (1, .int x1), (2, .int x2)] → W p l e ({ frames := 6, cells := 1, slots := 6, locals := 92 } : Room) s m args below meth c H locs 0 0 (vx_MQ below (va_Qi (fun (r : Int32) (u : (Nat → Int32) × (Nat → Int32) × Int32 × Int32) => K r u) (fun u t => xE D A ((fun (u : (Nat → Int32) × (Nat → Int32) × Int32 × Int32) => [(h, .inr (4, [.ref h_now, .ref h_copy, .ref h_past, .ref h_slots, .ref h_saved, .ref h_text, .ref h_shown, .int u.2.2.1, .int u.2.2.2])), (h_now, .inr (3, [.ref h_now_cells])), (h_now_cells, .inl (cI, 400, .inl u.1)), (h_past, .inr (2, [.ref h_past_cells, .int 14])), (h_past_cells, .inl (cI, 5600, .inl u.2.1))]) u) t) A) (vx_X (fun (_ : (Nat → Int32) × (Nat → Int32) × Int32 × Int32) => True) (fun E u t => ((fun (E : String) (u : (Nat → Int32) × (Nat → Int32) × Int32 × Int32) => KX E u) E u) ∧ xE D A ((fun (u : (Nat → Int32) × (Nat → Int32) × Int32 × Int32) => [(h, .inr (4, [.ref h_now, .ref h_copy, .ref h_past, .ref h_slots, .ref h_saved, .ref h_text, .ref h_shown, .int u.2.2.1, .int u.2.2.2])), (h_now, .inr (3, [.ref h_now_cells])), (h_now_cells, .inl (cI, 400, .inl u.1)), (h_past, .inr (2, [.ref h_past_cells, .int 14])), (h_past_cells, .inl (cI, 5600, .inl u.2.1))]) u) t) A) args s 1 6 A) (F0 m 0 ls []) := by
  obtain ⟨hx, hb, hr, hml, hown, hts, hlocks, hK, hN⟩ := id C0
  intro f_now_cells f_past_cells f_remembered f_oldest x1 x2 hk H locs ls hP hD hS hl
  rw [xp_X4_call] at hk
  refine lv_iload_n hx hb dX4_call_0 rfl (lv_at hl 1 rfl) ?_
  refine lv_iload_n hx hb dX4_call_1 rfl (lv_at hl 2 rfl) ?_
  refine x_joini (ws1 := fun (_ : Unit) => [(h, .inr (4, [.ref h_now, .ref h_copy, .ref h_past, .ref h_slots, .ref h_saved, .ref h_text, .ref h_shown, .int f_remembered, .int f_oldest])), (h_now, .inr (3, [.ref h_now_cells])), (h_now_cells, .inl (cI, 400, .inl f_now_cells)), (h_past, .inr (2, [.ref h_past_cells, .int 14])), (h_past_cells, .inl (cI, 5600, .inl f_past_cells))]) (x_runO (n0 := 2) (As := [.int x1, .int x2]) (rest := []) C0 (xc_X4_isSetup l D cI cC cZ cL  H.size x1 x2 _ hk) gX4_call_X4_isSetup rfl ⟨rfl, rfl⟩ (by decide +kernel) rfl ⟨by decide, by decide⟩ ⟨Nat.zero_le _, Nat.zero_le _⟩ hP hD [] rfl rfl hl.1 rfl (Nat.le_of_ble_eq_true rfl) dX4_call_2) hP hD hS hA [] [0, 1, 2, 3, 4] [0, 1, 2, 3, 4] rfl rfl rfl (by decide) (fun _ => rfl) rfl (fun r1 u1 H locs hk hP hD hS => ?_)
  refine lv_if_ne (tgt := 18) hx hb dX4_call_5 (by decide) (fun c2 => ?_) (fun c2 => ?_)
  · have hk := hk.1 c2
    refine lv_aload_n hx hb dX4_call_18 rfl (lv_at hl 0 rfl) ?_
    refine x_joinv (ws1 := fun (u3 : (Nat → Int32) × Int32 × Int32) => [(h, .inr (4, [.ref h_now, .ref h_copy, .ref h_past, .ref h_slots, .ref h_saved, .ref h_text, .ref h_shown, .int u3.2.1, .int u3.2.2])), (h_now, .inr (3, [.ref h_now_cells])), (h_now_cells, .inl (cI, 400, .inl f_now_cells)), (h_past, .inr (2, [.ref h_past_cells, .int 14])), (h_past_cells, .inl (cI, 5600, .inl u3.1))]) (x_runV (n0 := 0) (As := []) (rest := []) C0 (xc_X4_remember l D cI cC cZ cL h h_now h_copy h_past h_slots h_saved h_text h_shown h_now_cells h_past_cells H.size f_remembered f_oldest f_now_cells f_past_cells _ hk) gX4_call_X4_remember rfl ⟨rfl, rfl⟩ (by decide +kernel) rfl ⟨by decide, by decide⟩ ⟨Nat.zero_le _, Nat.zero_le _⟩ hP hD [0, 1, 2, 3, 4] rfl rfl (k := 0) rfl rfl rfl hl.1 rfl (Nat.le_of_ble_eq_true rfl) dX4_call_19) hP hD hS hA [0, 1, 2, 3, 4] [] [0, 1, 2, 3, 4] rfl rfl rfl (by decide) (fun _ => rfl) rfl (fun u3 H locs hk hP hD hS => ?_)
    refine lv_aload_n hx hb dX4_call_22 rfl (lv_at hl 0 rfl) ?_
    refine va_get (D := D) (ci := 4) (v := .ref h_now) (C := RX4) (T := TX4) (N := 9) hx hb hts xin_X4_call_X4 hown hK hP 0 rfl rfl 0 (by decide) (hts (.fieldLink RX4 12 "TakeLog" "now" "LTakeLog$State;") (by decide +kernel)) (fun _ h9 => h9) rfl dX4_call_23 ?_
    refine lv_iload_n hx hb dX4_call_26 rfl (lv_at hl 1 rfl) ?_
    refine lv_iload_n hx hb dX4_call_27 rfl (lv_at hl 2 rfl) ?_
    refine x_joini (ws1 := fun (u4 : (Nat → Int32)) => [(h, .inr (4, [.ref h_now, .ref h_copy, .ref h_past, .ref h_slots, .ref h_saved, .ref h_text, .ref h_shown, .int u3.2.1, .int u3.2.2])), (h_now, .inr (3, [.ref h_now_cells])), (h_now_cells, .inl (cI, 400, .inl u4)), (h_past, .inr (2, [.ref h_past_cells, .int 14])), (h_past_cells, .inl (cI, 5600, .inl u3.1))]) (x_runV (n0 := 2) (As := [.int x1, .int x2]) (rest := []) C0 (xc_X3_mean l D cI cC cZ cL h_now h_now_cells H.size f_now_cells x1 x2 _ hk) gX4_call_X3_mean rfl ⟨rfl, rfl⟩ (by decide +kernel) rfl ⟨by decide, by decide⟩ ⟨Nat.zero_le _, Nat.zero_le _⟩ hP hD [1, 2] rfl rfl (k := 1) rfl rfl rfl hl.1 rfl (Nat.le_of_ble_eq_true rfl) dX4_call_28) hP hD hS hA [1, 2] [0, 3, 4] [0, 3, 4, 1, 2] rfl rfl rfl (by decide) (fun _ => rfl) rfl (fun r4 u4 H locs hk hP hD hS => ?_)
    refine lv_pop hx hb dX4_call_31 rfl ?_
    refine lv_aload_n hx hb dX4_call_32 rfl (lv_at hl 0 rfl) ?_
    refine va_get (D := D) (ci := 4) (v := .ref h_now) (C := RX4) (T := TX4) (N := 9) hx hb hts xin_X4_call_X4 hown hK hP 0 rfl rfl 0 (by decide) (hts (.fieldLink RX4 12 "TakeLog" "now" "LTakeLog$State;") (by decide +kernel)) (fun _ h9 => h9) rfl dX4_call_33 ?_
    refine x_joini (ws1 := fun (_ : Unit) => [(h, .inr (4, [.ref h_now, .ref h_copy, .ref h_past, .ref h_slots, .ref h_saved, .ref h_text, .ref h_shown, .int u3.2.1, .int u3.2.2])), (h_now, .inr (3, [.ref h_now_cells])), (h_now_cells, .inl (cI, 400, .inl u4)), (h_past, .inr (2, [.ref h_past_cells, .int 14])), (h_past_cells, .inl (cI, 5600, .inl u3.1))]) (x_runV (n0 := 0) (As := []) (rest := []) C0 (xc_X3_nextNumber l D cI cC cZ cL h_now h_now_cells H.size u4 _ hk) gX4_call_X3_nextNumber rfl ⟨rfl, rfl⟩ (by decide +kernel) rfl ⟨by decide, by decide⟩ ⟨Nat.zero_le _, Nat.zero_le _⟩ hP hD [1, 2] rfl rfl (k := 1) rfl rfl rfl hl.1 rfl (Nat.le_of_ble_eq_true rfl) dX4_call_36) hP hD hS hA [1, 2] [0, 3, 4] [0, 3, 4, 1, 2] rfl rfl rfl (by decide) (fun _ => rfl) rfl (fun r5 u5 H locs hk hP hD hS => ?_)
    exact x_retiX C0 (u4, u3.1, u3.2.1, u3.2.2) hk hP hD hS dX4_call_39
  · have hk := hk.2 c2
    exact x_thr (text := "there is no such setup") C0 T0 hl0 hne (f_now_cells, f_past_cells, f_remembered, f_oldest) hk hP hD hS hl.1 (by decide +kernel) (by decide +kernel) (by decide +kernel) xw_X4_call_IA x_ngIA x_otIA (by decide +kernel) (by decide) (Nat.le_of_ble_eq_true rfl) (by decide) (by decide) dX4_call_8 dX4_call_11 dX4_call_12 dX4_call_14 dX4_call_17
theorem xc_X4_call (l : Launch) (hl0 : l.stackTraces = false) (D : va_G) (cI cC cZ cL : ClassId) (sf : Nat → Nat) (tL tH : Nat) (h h_now h_copy h_past h_slots h_saved h_text h_shown h_now_cells h_past_cells : Nat)  (sz : Nat) (f_remembered : Int32) (f_oldest : Int32) (f_now_cells : Nat → Int32) (f_past_cells : Nat → Int32) (x1 : Int32) (x2 : Int32) (K : Int32 → ((Nat → Int32) × (Nat → Int32) × Int32 × Int32) → Prop) (KX : String → ((Nat → Int32) × (Nat → Int32) × Int32 × Int32) → Prop) (hk : xp_X4_call f_now_cells f_past_cells f_remembered f_oldest x1 x2 K KX) : XMx l yX4_call wsX4_call ({ frames := 6, cells := 1, slots := 6, locals := 92 } : Room) D (xTY cI cC cZ cL) sf tL tH [.ref h, .int x1, .int x2] [(h, .inr (4, [.ref h_now, .ref h_copy, .ref h_past, .ref h_slots, .ref h_saved, .ref h_text, .ref h_shown, .int f_remembered, .int f_oldest])), (h_now, .inr (3, [.ref h_now_cells])), (h_now_cells, .inl (cI, 400, .inl f_now_cells)), (h_past, .inr (2, [.ref h_past_cells, .int 14])), (h_past_cells, .inl (cI, 5600, .inl f_past_cells))] sz (fun (r : Int32) (u : (Nat → Int32) × (Nat → Int32) × Int32 × Int32) => K r u) (fun (E : String) (u : (Nat → Int32) × (Nat → Int32) × Int32 × Int32) => KX E u) (fun (u : (Nat → Int32) × (Nat → Int32) × Int32 × Int32) => [(h, .inr (4, [.ref h_now, .ref h_copy, .ref h_past, .ref h_slots, .ref h_saved, .ref h_text, .ref h_shown, .int u.2.2.1, .int u.2.2.2])), (h_now, .inr (3, [.ref h_now_cells])), (h_now_cells, .inl (cI, 400, .inl u.1)), (h_past, .inr (2, [.ref h_past_cells, .int 14])), (h_past_cells, .inl (cI, 5600, .inl u.2.1))]) :=
  x_enterX (cc := cX4_call) (maxL := 3) (ret := (some .int)) (own := RX4) (by decide) rfl rfl (Nat.le_of_ble_eq_true rfl) (fun p e s m below meth c ls C0 T0 hne hA hP hD hS hl => xb_X4_call_0 C0 hA T0 hl0 hne _ _ _ _ _ _ hk s.heap [] ls hP hD hS hl)
set_option maxRecDepth 20000 in
theorem xw_X4_board_IA : ∀ w ∈ (vx_atS RX4 53 xIA xNm).filter goodWord, w ∈ wsX4_board := by decide +kernel
set_option maxRecDepth 20000 in
theorem xin_X4_board_X4 : ∀ w ∈ u_ws RX4 TX4 9, w ∈ wsX4_board := by decide +kernel
set_option maxRecDepth 20000 in
theorem xin_X4_board_X3 : ∀ w ∈ u_ws RX3 TX3 1, w ∈ wsX4_board := by decide +kernel
set_option maxRecDepth 20000 in
theorem xin_X4_board_X2 : ∀ w ∈ u_ws RX2 TX2 2, w ∈ wsX4_board := by decide +kernel
set_option maxHeartbeats 4000000 in
set_option maxRecDepth 100000 in
theorem xb_X4_board_19 {p : Program} {l : Launch} {e : Env} {s : State} {m : MethodId} {args : Array Value} {below : List Frame} {meth : Method} {c : Code} {A : Nat → Prop} {D : va_G} {cI cC cZ cL : ClassId} {sf : Nat → Nat} {tL tH : Nat} {h h_now h_copy h_past h_slots h_saved h_text h_shown h_now_cells h_past_cells : Nat}   {K : Int32 → ((Nat → Int32) × (Nat → Int32) × Int32 × Int32) → Prop} {KX : String → ((Nat → Int32) × (Nat → Int32) × Int32 × Int32) → Prop}  (C0 : xC p s m args meth c cX4_board 4 (some .int) wsX4_board RX4 D (xTY cI cC cZ cL)) (hA : ∀ q : Nat, s.heap.size ≤ q → A q) (T0 : xT sf tL tH A s s.heap) (hl0 : l.stackTraces = false) (hne : ∀ x ∈ c.exceptionTable.toList, False)  : ∀ (f_now_cells : Nat → Int32) (f_past_cells : Nat → Int32) (f_remembered : Int32) (f_oldest : Int32) , xp_X4_board_19 K KX f_now_cells f_past_cells f_remembered f_oldest → ∀ (H : Heap) (locs : List Loc) (ls : Array Slot), va_P D vwCl [(h, .inr (4, [.ref h_now, .ref h_copy, .ref h_past, .ref h_slots, .ref h_saved, .ref h_text, .ref h_shown, .int f_remembered, .int f_oldest])), (h_now, .inr (3, [.ref h_now_cells])), (h_now_cells, .inl (cI, 400, .inl f_now_cells)), (h_past, .inr (2, [.ref h_past_cells, .int 14])), (h_past_cells, .inl (cI, 5600, .inl f_past_cells))] H → va_D A [(h, .inr (4, [.ref h_now, .ref h_copy, .ref h_past, .ref h_slots, .ref h_saved, .ref h_text, .ref h_shown, .int f_remembered, .int f_oldest])), (h_now, .inr (3, [.ref h_now_cells])), (h_now_cells, .inl (cI, 400, .inl f_now_cells)), (h_past, .inr (2, [.ref h_past_cells, .int 14])), (h_past_cells, .inl (cI, 5600, .inl f_past_cells))] → va_S A s.heap H locs → lv_has ls 4 [] → W p l e ({ frames := 6, cells := 1, slots := 6, locals := 92 } : Room) s m args below meth c H locs 0 0 (vx_MQ below (va_Qi (fun (r : Int32) (u : (Nat → Int32) × (Nat → Int32) × Int32 × Int32) => K r u) (fun u t => xE D A ((fun (u : (Nat → Int32) × (Nat → Int32) × Int32 × Int32) => [(h, .inr (4, [.ref h_now, .ref h_copy, .ref h_past, .ref h_slots, .ref h_saved, .ref h_text, .ref h_shown, .int u.2.2.1, .int u.2.2.2])), (h_now, .inr (3, [.ref h_now_cells])), (h_now_cells, .inl (cI, 400, .inl u.1)), (h_past, .inr (2, [.ref h_past_cells, .int 14])), (h_past_cells, .inl (cI, 5600, .inl u.2.1))]) u) t) A) (vx_X (fun (_ : (Nat → Int32) × (Nat → Int32) × Int32 × Int32) => True) (fun E u t => ((fun (E : String) (u : (Nat → Int32) × (Nat → Int32) × Int32 × Int32) => KX E u) E u) ∧ xE D A ((fun (u : (Nat → Int32) × (Nat → Int32) × Int32 × Int32) => [(h, .inr (4, [.ref h_now, .ref h_copy, .ref h_past, .ref h_slots, .ref h_saved, .ref h_text, .ref h_shown, .int u.2.2.1, .int u.2.2.2])), (h_now, .inr (3, [.ref h_now_cells])), (h_now_cells, .inl (cI, 400, .inl u.1)), (h_past, .inr (2, [.ref h_past_cells, .int 14])), (h_past_cells, .inl (cI, 5600, .inl u.2.1))]) u) t) A) args s 1 6 A) (F0 m 19 ls []) := by
  obtain ⟨hx, hb, hr, hml, hown, hts, hlocks, hK, hN⟩ := id C0
  intro f_now_cells f_past_cells f_remembered f_oldest hk H locs ls hP hD hS hl
  rw [xp_X4_board_19] at hk
  exact x_thr (text := "there is no such slate") C0 T0 hl0 hne (f_now_cells, f_past_cells, f_remembered, f_oldest) hk hP hD hS hl.1 (by decide +kernel) (by decide +kernel) (by decide +kernel) xw_X4_board_IA x_ngIA x_otIA (by decide +kernel) (by decide) (Nat.le_of_ble_eq_true rfl) (by decide) (by decide) dX4_board_19 dX4_board_22 dX4_board_23 dX4_board_25 dX4_board_28
set_option maxHeartbeats 4000000 in
set_option maxRecDepth 100000 in
theorem xb_X4_board_0 {p : Program} {l : Launch} {e : Env} {s : State} {m : MethodId} {args : Array Value} {below : List Frame} {meth : Method} {c : Code} {A : Nat → Prop} {D : va_G} {cI cC cZ cL : ClassId} {sf : Nat → Nat} {tL tH : Nat} {h h_now h_copy h_past h_slots h_saved h_text h_shown h_now_cells h_past_cells : Nat}   {K : Int32 → ((Nat → Int32) × (Nat → Int32) × Int32 × Int32) → Prop} {KX : String → ((Nat → Int32) × (Nat → Int32) × Int32 × Int32) → Prop}  (C0 : xC p s m args meth c cX4_board 4 (some .int) wsX4_board RX4 D (xTY cI cC cZ cL)) (hA : ∀ q : Nat, s.heap.size ≤ q → A q) (T0 : xT sf tL tH A s s.heap) (hl0 : l.stackTraces = false) (hne : ∀ x ∈ c.exceptionTable.toList, False)  : ∀ (f_now_cells : Nat → Int32) (f_past_cells : Nat → Int32) (f_remembered : Int32) (f_oldest : Int32) (x1 : Int32) (x2 : Int32) (x3 : Int32) , xp_X4_board f_now_cells f_past_cells f_remembered f_oldest x1 x2 x3 K KX → ∀ (H : Heap) (locs : List Loc) (ls : Array Slot), va_P D vwCl [(h, .inr (4, [.ref h_now, .ref h_copy, .ref h_past, .ref h_slots, .ref h_saved, .ref h_text, .ref h_shown, .int f_remembered, .int f_oldest])), (h_now, .inr (3, [.ref h_now_cells])), (h_now_cells, .inl (cI, 400, .inl f_now_cells)), (h_past, .inr (2, [.ref h_past_cells, .int 14])), (h_past_cells, .inl (cI, 5600, .inl f_past_cells))] H → va_D A [(h, .inr (4, [.ref h_now, .ref h_copy, .ref h_past, .ref h_slots, .ref h_saved, .ref h_text, .ref h_shown, .int f_remembered, .int f_oldest])), (h_now, .inr (3, [.ref h_now_cells])), (h_now_cells, .inl (cI, 400, .inl f_now_cells)), (h_past, .inr (2, [.ref h_past_cells, .int 14])), (h_past_cells, .inl (cI, 5600, .inl f_past_cells))] → va_S A s.heap H locs → lv_has ls 4 [(0, .ref h), (1, .int x1), (2, .int x2), (3, .int x3)] → W p l e ({ frames := 6, cells := 1, slots := 6, locals := 92 } : Room) s m args below meth c H locs 0 0 (vx_MQ below (va_Qi (fun (r : Int32) (u : (Nat → Int32) × (Nat → Int32) × Int32 × Int32) => K r u) (fun u t => xE D A ((fun (u : (Nat → Int32) × (Nat → Int32) × Int32 × Int32) => [(h, .inr (4, [.ref h_now, .ref h_copy, .ref h_past, .ref h_slots, .ref h_saved, .ref h_text, .ref h_shown, .int u.2.2.1, .int u.2.2.2])), (h_now, .inr (3, [.ref h_now_cells])), (h_now_cells, .inl (cI, 400, .inl u.1)), (h_past, .inr (2, [.ref h_past_cells, .int 14])), (h_past_cells, .inl (cI, 5600, .inl u.2.1))]) u) t) A) (vx_X (fun (_ : (Nat → Int32) × (Nat → Int32) × Int32 × Int32) => True) (fun E u t => ((fun (E : String) (u : (Nat → Int32) × (Nat → Int32) × Int32 × Int32) => KX E u) E u) ∧ xE D A ((fun (u : (Nat → Int32) × (Nat → Int32) × Int32 × Int32) => [(h, .inr (4, [.ref h_now, .ref h_copy, .ref h_past, .ref h_slots, .ref h_saved, .ref h_text, .ref h_shown, .int u.2.2.1, .int u.2.2.2])), (h_now, .inr (3, [.ref h_now_cells])), (h_now_cells, .inl (cI, 400, .inl u.1)), (h_past, .inr (2, [.ref h_past_cells, .int 14])), (h_past_cells, .inl (cI, 5600, .inl u.2.1))]) u) t) A) args s 1 6 A) (F0 m 0 ls []) := by
  obtain ⟨hx, hb, hr, hml, hown, hts, hlocks, hK, hN⟩ := id C0
  intro f_now_cells f_past_cells f_remembered f_oldest x1 x2 x3 hk H locs ls hP hD hS hl
  rw [xp_X4_board] at hk
  refine lv_iload_n hx hb dX4_board_0 rfl (lv_at hl 1 rfl) ?_
  refine lv_iload_n hx hb dX4_board_1 rfl (lv_at hl 2 rfl) ?_
  refine x_joini (ws1 := fun (_ : Unit) => [(h, .inr (4, [.ref h_now, .ref h_copy, .ref h_past, .ref h_slots, .ref h_saved, .ref h_text, .ref h_shown, .int f_remembered, .int f_oldest])), (h_now, .inr (3, [.ref h_now_cells])), (h_now_cells, .inl (cI, 400, .inl f_now_cells)), (h_past, .inr (2, [.ref h_past_cells, .int 14])), (h_past_cells, .inl (cI, 5600, .inl f_past_cells))]) (x_runO (n0 := 2) (As := [.int x1, .int x2]) (rest := []) C0 (xc_X4_isSetup l D cI cC cZ cL  H.size x1 x2 _ hk) gX4_board_X4_isSetup rfl ⟨rfl, rfl⟩ (by decide +kernel) rfl ⟨by decide, by decide⟩ ⟨Nat.zero_le _, Nat.zero_le _⟩ hP hD [] rfl rfl hl.1 rfl (Nat.le_of_ble_eq_true rfl) dX4_board_2) hP hD hS hA [] [0, 1, 2, 3, 4] [0, 1, 2, 3, 4] rfl rfl rfl (by decide) (fun _ => rfl) rfl (fun r1 u1 H locs hk hP hD hS => ?_)
  refine lv_if_eq (tgt := 19) hx hb dX4_board_5 (by decide) (fun c2 => ?_) (fun c2 => ?_)
  · have hk := hk.1 c2
    exact xb_X4_board_19 C0 hA T0 hl0 hne  _ _ _ _ hk H locs ls hP hD hS (lv_sub hl [] rfl)
  · have hk := hk.2 c2
    refine lv_iload_n hx hb dX4_board_8 rfl (lv_at hl 3 rfl) ?_
    refine lv_iconst (v := 1) hx hb dX4_board_9 (by decide) ?_
    refine lv_icmp_lt (tgt := 19) hx hb dX4_board_10 (by decide) (fun c3 => ?_) (fun c3 => ?_)
    · have hk := hk.1 c3
      exact xb_X4_board_19 C0 hA T0 hl0 hne  _ _ _ _ hk H locs ls hP hD hS (lv_sub hl [] rfl)
    · have hk := hk.2 c3
      refine lv_iload_n hx hb dX4_board_13 rfl (lv_at hl 3 rfl) ?_
      refine lv_bipush (v := 99) hx hb dX4_board_14 (by decide) ?_
      refine lv_icmp_le (tgt := 29) hx hb dX4_board_16 (by decide) (fun c4 => ?_) (fun c4 => ?_)
      · have hk := hk.1 c4
        refine lv_aload_n hx hb dX4_board_29 rfl (lv_at hl 0 rfl) ?_
        refine x_joinv (ws1 := fun (u5 : (Nat → Int32) × Int32 × Int32) => [(h, .inr (4, [.ref h_now, .ref h_copy, .ref h_past, .ref h_slots, .ref h_saved, .ref h_text, .ref h_shown, .int u5.2.1, .int u5.2.2])), (h_now, .inr (3, [.ref h_now_cells])), (h_now_cells, .inl (cI, 400, .inl f_now_cells)), (h_past, .inr (2, [.ref h_past_cells, .int 14])), (h_past_cells, .inl (cI, 5600, .inl u5.1))]) (x_runV (n0 := 0) (As := []) (rest := []) C0 (xc_X4_remember l D cI cC cZ cL h h_now h_copy h_past h_slots h_saved h_text h_shown h_now_cells h_past_cells H.size f_remembered f_oldest f_now_cells f_past_cells _ hk) gX4_board_X4_remember rfl ⟨rfl, rfl⟩ (by decide +kernel) rfl ⟨by decide, by decide⟩ ⟨Nat.zero_le _, Nat.zero_le _⟩ hP hD [0, 1, 2, 3, 4] rfl rfl (k := 0) rfl rfl rfl hl.1 rfl (Nat.le_of_ble_eq_true rfl) dX4_board_30) hP hD hS hA [0, 1, 2, 3, 4] [] [0, 1, 2, 3, 4] rfl rfl rfl (by decide) (fun _ => rfl) rfl (fun u5 H locs hk hP hD hS => ?_)
        refine lv_aload_n hx hb dX4_board_33 rfl (lv_at hl 0 rfl) ?_
        refine va_get (D := D) (ci := 4) (v := .ref h_now) (C := RX4) (T := TX4) (N := 9) hx hb hts xin_X4_board_X4 hown hK hP 0 rfl rfl 0 (by decide) (hts (.fieldLink RX4 12 "TakeLog" "now" "LTakeLog$State;") (by decide +kernel)) (fun _ h9 => h9) rfl dX4_board_34 ?_
        refine lv_iload_n hx hb dX4_board_37 rfl (lv_at hl 1 rfl) ?_
        refine lv_iload_n hx hb dX4_board_38 rfl (lv_at hl 2 rfl) ?_
        refine lv_iload_n hx hb dX4_board_39 rfl (lv_at hl 3 rfl) ?_
        refine x_joinv (ws1 := fun (u6 : (Nat → Int32)) => [(h, .inr (4, [.ref h_now, .ref h_copy, .ref h_past, .ref h_slots, .ref h_saved, .ref h_text, .ref h_shown, .int u5.2.1, .int u5.2.2])), (h_now, .inr (3, [.ref h_now_cells])), (h_now_cells, .inl (cI, 400, .inl u6)), (h_past, .inr (2, [.ref h_past_cells, .int 14])), (h_past_cells, .inl (cI, 5600, .inl u5.1))]) (x_runV (n0 := 3) (As := [.int x1, .int x2, .int x3]) (rest := []) C0 (xc_X3_write l D cI cC cZ cL h_now h_now_cells H.size f_now_cells x1 x2 x3 _ hk) gX4_board_X3_write rfl ⟨rfl, rfl⟩ (by decide +kernel) rfl ⟨by decide, by decide⟩ ⟨Nat.zero_le _, Nat.zero_le _⟩ hP hD [1, 2] rfl rfl (k := 1) rfl rfl rfl hl.1 rfl (Nat.le_of_ble_eq_true rfl) dX4_board_40) hP hD hS hA [1, 2] [0, 3, 4] [0, 3, 4, 1, 2] rfl rfl rfl (by decide) (fun _ => rfl) rfl (fun u6 H locs hk hP hD hS => ?_)
        refine lv_aload_n hx hb dX4_board_43 rfl (lv_at hl 0 rfl) ?_
        refine va_get (D := D) (ci := 4) (v := .ref h_now) (C := RX4) (T := TX4) (N := 9) hx hb hts xin_X4_board_X4 hown hK hP 0 rfl rfl 0 (by decide) (hts (.fieldLink RX4 12 "TakeLog" "now" "LTakeLog$State;") (by decide +kernel)) (fun _ h9 => h9) rfl dX4_board_44 ?_
        refine x_joini (ws1 := fun (_ : Unit) => [(h, .inr (4, [.ref h_now, .ref h_copy, .ref h_past, .ref h_slots, .ref h_saved, .ref h_text, .ref h_shown, .int u5.2.1, .int u5.2.2])), (h_now, .inr (3, [.ref h_now_cells])), (h_now_cells, .inl (cI, 400, .inl u6)), (h_past, .inr (2, [.ref h_past_cells, .int 14])), (h_past_cells, .inl (cI, 5600, .inl u5.1))]) (x_runV (n0 := 0) (As := []) (rest := []) C0 (xc_X3_boardIsRight l D cI cC cZ cL h_now h_now_cells H.size u6 _ hk) gX4_board_X3_boardIsRight rfl ⟨rfl, rfl⟩ (by decide +kernel) rfl ⟨by decide, by decide⟩ ⟨Nat.zero_le _, Nat.zero_le _⟩ hP hD [1, 2] rfl rfl (k := 1) rfl rfl rfl hl.1 rfl (Nat.le_of_ble_eq_true rfl) dX4_board_47) hP hD hS hA [1, 2] [0, 3, 4] [0, 3, 4, 1, 2] rfl rfl rfl (by decide) (fun _ => rfl) rfl (fun r7 u7 H locs hk hP hD hS => ?_)
        refine lv_if_eq (tgt := 57) hx hb dX4_board_50 (by decide) (fun c8 => ?_) (fun c8 => ?_)
        · have hk := hk.1 c8
          refine lv_iconst (v := 0) hx hb dX4_board_57 (by decide) ?_
          exact x_retiX C0 (u6, u5.1, u5.2.1, u5.2.2) hk hP hD hS dX4_board_58
        · have hk := hk.2 c8
          refine lv_iconst (v := 1) hx hb dX4_board_53 (by decide) ?_
          refine lv_goto (tgt := 58) hx hb dX4_board_54 (by decide) ?_
          exact x_retiX C0 (u6, u5.1, u5.2.1, u5.2.2) hk hP hD hS dX4_board_58
      · have hk := hk.2 c4
        exact xb_X4_board_19 C0 hA T0 hl0 hne  _ _ _ _ hk H locs ls hP hD hS (lv_sub hl [] rfl)
theorem xc_X4_board (l : Launch) (hl0 : l.stackTraces = false) (D : va_G) (cI cC cZ cL : ClassId) (sf : Nat → Nat) (tL tH : Nat) (h h_now h_copy h_past h_slots h_saved h_text h_shown h_now_cells h_past_cells : Nat)  (sz : Nat) (f_remembered : Int32) (f_oldest : Int32) (f_now_cells : Nat → Int32) (f_past_cells : Nat → Int32) (x1 : Int32) (x2 : Int32) (x3 : Int32) (K : Int32 → ((Nat → Int32) × (Nat → Int32) × Int32 × Int32) → Prop) (KX : String → ((Nat → Int32) × (Nat → Int32) × Int32 × Int32) → Prop) (hk : xp_X4_board f_now_cells f_past_cells f_remembered f_oldest x1 x2 x3 K KX) : XMx l yX4_board wsX4_board ({ frames := 6, cells := 1, slots := 6, locals := 92 } : Room) D (xTY cI cC cZ cL) sf tL tH [.ref h, .int x1, .int x2, .int x3] [(h, .inr (4, [.ref h_now, .ref h_copy, .ref h_past, .ref h_slots, .ref h_saved, .ref h_text, .ref h_shown, .int f_remembered, .int f_oldest])), (h_now, .inr (3, [.ref h_now_cells])), (h_now_cells, .inl (cI, 400, .inl f_now_cells)), (h_past, .inr (2, [.ref h_past_cells, .int 14])), (h_past_cells, .inl (cI, 5600, .inl f_past_cells))] sz (fun (r : Int32) (u : (Nat → Int32) × (Nat → Int32) × Int32 × Int32) => K r u) (fun (E : String) (u : (Nat → Int32) × (Nat → Int32) × Int32 × Int32) => KX E u) (fun (u : (Nat → Int32) × (Nat → Int32) × Int32 × Int32) => [(h, .inr (4, [.ref h_now, .ref h_copy, .ref h_past, .ref h_slots, .ref h_saved, .ref h_text, .ref h_shown, .int u.2.2.1, .int u.2.2.2])), (h_now, .inr (3, [.ref h_now_cells])), (h_now_cells, .inl (cI, 400, .inl u.1)), (h_past, .inr (2, [.ref h_past_cells, .int 14])), (h_past_cells, .inl (cI, 5600, .inl u.2.1))]) :=
  x_enterX (cc := cX4_board) (maxL := 4) (ret := (some .int)) (own := RX4) (by decide) rfl rfl (Nat.le_of_ble_eq_true rfl) (fun p e s m below meth c ls C0 T0 hne hA hP hD hS hl => xb_X4_board_0 C0 hA T0 hl0 hne _ _ _ _ _ _ _ hk s.heap [] ls hP hD hS hl)
set_option maxRecDepth 20000 in
theorem xw_X4_shoot_IA : ∀ w ∈ (vx_atS RX4 53 xIA xNm).filter goodWord, w ∈ wsX4_shoot := by decide +kernel
set_option maxRecDepth 20000 in
theorem xw_X4_shoot_IS : ∀ w ∈ (vx_atS RX4 64 xIS xNm).filter goodWord, w ∈ wsX4_shoot := by decide +kernel
set_option maxRecDepth 20000 in
theorem xin_X4_shoot_X2 : ∀ w ∈ u_ws RX2 TX2 2, w ∈ wsX4_shoot := by decide +kernel
set_option maxRecDepth 20000 in
theorem xin_X4_shoot_X3 : ∀ w ∈ u_ws RX3 TX3 1, w ∈ wsX4_shoot := by decide +kernel
set_option maxRecDepth 20000 in
theorem xin_X4_shoot_X4 : ∀ w ∈ u_ws RX4 TX4 9, w ∈ wsX4_shoot := by decide +kernel
set_option maxHeartbeats 4000000 in
set_option maxRecDepth 100000 in
theorem xb_X4_shoot_0 {p : Program} {l : Launch} {e : Env} {s : State} {m : MethodId} {args : Array Value} {below : List Frame} {meth : Method} {c : Code} {A : Nat → Prop} {D : va_G} {cI cC cZ cL : ClassId} {sf : Nat → Nat} {tL tH : Nat} {h h_now h_copy h_past h_slots h_saved h_text h_shown h_now_cells h_past_cells : Nat}   {K : Int32 → ((Nat → Int32) × (Nat → Int32) × Int32 × Int32) → Prop} {KX : String → ((Nat → Int32) × (Nat → Int32) × Int32 × Int32) → Prop}  (C0 : xC p s m args meth c cX4_shoot 3 (some .int) wsX4_shoot RX4 D (xTY cI cC cZ cL)) (hA : ∀ q : Nat, s.heap.size ≤ q → A q) (T0 : xT sf tL tH A s s.heap) (hl0 : l.stackTraces = false) (hne : ∀ x ∈ c.exceptionTable.toList, False)  : ∀ (f_now_cells : Nat → Int32) (f_past_cells : Nat → Int32) (f_remembered : Int32) (f_oldest : Int32) (x1 : Int32) (x2 : Int32) , xp_X4_shoot f_now_cells f_past_cells f_remembered f_oldest x1 x2 K KX → ∀ (H : Heap) (locs : List Loc) (ls : Array Slot), va_P D vwCl [(h, .inr (4, [.ref h_now, .ref h_copy, .ref h_past, .ref h_slots, .ref h_saved, .ref h_text, .ref h_shown, .int f_remembered, .int f_oldest])), (h_now, .inr (3, [.ref h_now_cells])), (h_now_cells, .inl (cI, 400, .inl f_now_cells)), (h_past, .inr (2, [.ref h_past_cells, .int 14])), (h_past_cells, .inl (cI, 5600, .inl f_past_cells))] H → va_D A [(h, .inr (4, [.ref h_now, .ref h_copy, .ref h_past, .ref h_slots, .ref h_saved, .ref h_text, .ref h_shown, .int f_remembered, .int f_oldest])), (h_now, .inr (3, [.ref h_now_cells])), (h_now_cells, .inl (cI, 400, .inl f_now_cells)), (h_past, .inr (2, [.ref h_past_cells, .int 14])), (h_past_cells, .inl (cI, 5600, .inl f_past_cells))] → va_S A s.heap H locs → lv_has ls 3 [(0, .ref h), (1, .int x1), (2, .int x2)] → W p l e ({ frames := 6, cells := 1, slots := 6, locals := 92 } : Room) s m args below meth c H locs 0 0 (vx_MQ below (va_Qi (fun (r : Int32) (u : (Nat → Int32) × (Nat → Int32) × Int32 × Int32) => K r u) (fun u t => xE D A ((fun (u : (Nat → Int32) × (Nat → Int32) × Int32 × Int32) => [(h, .inr (4, [.ref h_now, .ref h_copy, .ref h_past, .ref h_slots, .ref h_saved, .ref h_text, .ref h_shown, .int u.2.2.1, .int u.2.2.2])), (h_now, .inr (3, [.ref h_now_cells])), (h_now_cells, .inl (cI, 400, .inl u.1)), (h_past, .inr (2, [.ref h_past_cells, .int 14])), (h_past_cells, .inl (cI, 5600, .inl u.2.1))]) u) t) A) (vx_X (fun (_ : (Nat → Int32) × (Nat → Int32) × Int32 × Int32) => True) (fun E u t => ((fun (E : String) (u : (Nat → Int32) × (Nat → Int32) × Int32 × Int32) => KX E u) E u) ∧ xE D A ((fun (u : (Nat → Int32) × (Nat → Int32) × Int32 × Int32) => [(h, .inr (4, [.ref h_now, .ref h_copy, .ref h_past, .ref h_slots, .ref h_saved, .ref h_text, .ref h_shown, .int u.2.2.1, .int u.2.2.2])), (h_now, .inr (3, [.ref h_now_cells])), (h_now_cells, .inl (cI, 400, .inl u.1)), (h_past, .inr (2, [.ref h_past_cells, .int 14])), (h_past_cells, .inl (cI, 5600, .inl u.2.1))]) u) t) A) args s 1 6 A) (F0 m 0 ls []) := by
  obtain ⟨hx, hb, hr, hml, hown, hts, hlocks, hK, hN⟩ := id C0
  intro f_now_cells f_past_cells f_remembered f_oldest x1 x2 hk H locs ls hP hD hS hl
  rw [xp_X4_shoot] at hk
  refine lv_iload_n hx hb dX4_shoot_0 rfl (lv_at hl 1 rfl) ?_
  refine x_joini (ws1 := fun (_ : Unit) => [(h, .inr (4, [.ref h_now, .ref h_copy, .ref h_past, .ref h_slots, .ref h_saved, .ref h_text, .ref h_shown, .int f_remembered, .int f_oldest])), (h_now, .inr (3, [.ref h_now_cells])), (h_now_cells, .inl (cI, 400, .inl f_now_cells)), (h_past, .inr (2, [.ref h_past_cells, .int 14])), (h_past_cells, .inl (cI, 5600, .inl f_past_cells))]) (x_runO (n0 := 1) (As := [.int x1]) (rest := []) C0 (xc_X4_isLength l D cI cC cZ cL  H.size x1 _ hk) gX4_shoot_X4_isLength rfl ⟨rfl, rfl⟩ (by decide +kernel) rfl ⟨by decide, by decide⟩ ⟨Nat.zero_le _, Nat.zero_le _⟩ hP hD [] rfl rfl hl.1 rfl (Nat.le_of_ble_eq_true rfl) dX4_shoot_1) hP hD hS hA [] [0, 1, 2, 3, 4] [0, 1, 2, 3, 4] rfl rfl rfl (by decide) (fun _ => rfl) rfl (fun r1 u1 H locs hk hP hD hS => ?_)
  refine lv_if_ne (tgt := 17) hx hb dX4_shoot_4 (by decide) (fun c2 => ?_) (fun c2 => ?_)
  · have hk := hk.1 c2
    refine lv_aload_n hx hb dX4_shoot_17 rfl (lv_at hl 0 rfl) ?_
    refine va_get (D := D) (ci := 4) (v := .ref h_now) (C := RX4) (T := TX4) (N := 9) hx hb hts xin_X4_shoot_X4 hown hK hP 0 rfl rfl 0 (by decide) (hts (.fieldLink RX4 12 "TakeLog" "now" "LTakeLog$State;") (by decide +kernel)) (fun _ h9 => h9) rfl dX4_shoot_18 ?_
    refine x_joini (ws1 := fun (_ : Unit) => [(h, .inr (4, [.ref h_now, .ref h_copy, .ref h_past, .ref h_slots, .ref h_saved, .ref h_text, .ref h_shown, .int f_remembered, .int f_oldest])), (h_now, .inr (3, [.ref h_now_cells])), (h_now_cells, .inl (cI, 400, .inl f_now_cells)), (h_past, .inr (2, [.ref h_past_cells, .int 14])), (h_past_cells, .inl (cI, 5600, .inl f_past_cells))]) (x_runV (n0 := 0) (As := []) (rest := []) C0 (xc_X3_canFilm l D cI cC cZ cL h_now h_now_cells H.size f_now_cells _ hk) gX4_shoot_X3_canFilm rfl ⟨rfl, rfl⟩ (by decide +kernel) rfl ⟨by decide, by decide⟩ ⟨Nat.zero_le _, Nat.zero_le _⟩ hP hD [1, 2] rfl rfl (k := 1) rfl rfl rfl hl.1 rfl (Nat.le_of_ble_eq_true rfl) dX4_shoot_21) hP hD hS hA [1, 2] [0, 3, 4] [0, 3, 4, 1, 2] rfl rfl rfl (by decide) (fun _ => rfl) rfl (fun r3 u3 H locs hk hP hD hS => ?_)
    refine lv_if_ne (tgt := 37) hx hb dX4_shoot_24 (by decide) (fun c4 => ?_) (fun c4 => ?_)
    · have hk := hk.1 c4
      refine lv_aload_n hx hb dX4_shoot_37 rfl (lv_at hl 0 rfl) ?_
      refine x_joinv (ws1 := fun (u5 : (Nat → Int32) × Int32 × Int32) => [(h, .inr (4, [.ref h_now, .ref h_copy, .ref h_past, .ref h_slots, .ref h_saved, .ref h_text, .ref h_shown, .int u5.2.1, .int u5.2.2])), (h_now, .inr (3, [.ref h_now_cells])), (h_now_cells, .inl (cI, 400, .inl f_now_cells)), (h_past, .inr (2, [.ref h_past_cells, .int 14])), (h_past_cells, .inl (cI, 5600, .inl u5.1))]) (x_runV (n0 := 0) (As := []) (rest := []) C0 (xc_X4_remember l D cI cC cZ cL h h_now h_copy h_past h_slots h_saved h_text h_shown h_now_cells h_past_cells H.size f_remembered f_oldest f_now_cells f_past_cells _ hk) gX4_shoot_X4_remember rfl ⟨rfl, rfl⟩ (by decide +kernel) rfl ⟨by decide, by decide⟩ ⟨Nat.zero_le _, Nat.zero_le _⟩ hP hD [0, 1, 2, 3, 4] rfl rfl (k := 0) rfl rfl rfl hl.1 rfl (Nat.le_of_ble_eq_true rfl) dX4_shoot_38) hP hD hS hA [0, 1, 2, 3, 4] [] [0, 1, 2, 3, 4] rfl rfl rfl (by decide) (fun _ => rfl) rfl (fun u5 H locs hk hP hD hS => ?_)
      refine lv_aload_n hx hb dX4_shoot_41 rfl (lv_at hl 0 rfl) ?_
      refine va_get (D := D) (ci := 4) (v := .ref h_now) (C := RX4) (T := TX4) (N := 9) hx hb hts xin_X4_shoot_X4 hown hK hP 0 rfl rfl 0 (by decide) (hts (.fieldLink RX4 12 "TakeLog" "now" "LTakeLog$State;") (by decide +kernel)) (fun _ h9 => h9) rfl dX4_shoot_42 ?_
      refine lv_iload_n hx hb dX4_shoot_45 rfl (lv_at hl 1 rfl) ?_
      refine lv_iload_n hx hb dX4_shoot_46 rfl (lv_at hl 2 rfl) ?_
      refine x_joini (ws1 := fun (u6 : (Nat → Int32)) => [(h, .inr (4, [.ref h_now, .ref h_copy, .ref h_past, .ref h_slots, .ref h_saved, .ref h_text, .ref h_shown, .int u5.2.1, .int u5.2.2])), (h_now, .inr (3, [.ref h_now_cells])), (h_now_cells, .inl (cI, 400, .inl u6)), (h_past, .inr (2, [.ref h_past_cells, .int 14])), (h_past_cells, .inl (cI, 5600, .inl u5.1))]) (x_runV (n0 := 2) (As := [.int x1, .int x2]) (rest := []) C0 (xc_X3_film l D cI cC cZ cL h_now h_now_cells H.size f_now_cells x1 x2 _ hk) gX4_shoot_X3_film rfl ⟨rfl, rfl⟩ (by decide +kernel) rfl ⟨by decide, by decide⟩ ⟨Nat.zero_le _, Nat.zero_le _⟩ hP hD [1, 2] rfl rfl (k := 1) rfl rfl rfl hl.1 rfl (Nat.le_of_ble_eq_true rfl) dX4_shoot_47) hP hD hS hA [1, 2] [0, 3, 4] [0, 3, 4, 1, 2] rfl rfl rfl (by decide) (fun _ => rfl) rfl (fun r6 u6 H locs hk hP hD hS => ?_)
      exact x_retiX C0 (u6, u5.1, u5.2.1, u5.2.2) hk hP hD hS dX4_shoot_50
    · have hk := hk.2 c4
      exact x_thr (text := "there are 24 takes, or the camera roll is used up") C0 T0 hl0 hne (f_now_cells, f_past_cells, f_remembered, f_oldest) hk hP hD hS hl.1 (by decide +kernel) (by decide +kernel) (by decide +kernel) xw_X4_shoot_IS x_ngIS x_otIS (by decide +kernel) (by decide) (Nat.le_of_ble_eq_true rfl) (by decide) (by decide) dX4_shoot_27 dX4_shoot_30 dX4_shoot_31 dX4_shoot_33 dX4_shoot_36
  · have hk := hk.2 c2
    exact x_thr (text := "the seconds are not 1 to 120") C0 T0 hl0 hne (f_now_cells, f_past_cells, f_remembered, f_oldest) hk hP hD hS hl.1 (by decide +kernel) (by decide +kernel) (by decide +kernel) xw_X4_shoot_IA x_ngIA x_otIA (by decide +kernel) (by decide) (Nat.le_of_ble_eq_true rfl) (by decide) (by decide) dX4_shoot_7 dX4_shoot_10 dX4_shoot_11 dX4_shoot_13 dX4_shoot_16
theorem xc_X4_shoot (l : Launch) (hl0 : l.stackTraces = false) (D : va_G) (cI cC cZ cL : ClassId) (sf : Nat → Nat) (tL tH : Nat) (h h_now h_copy h_past h_slots h_saved h_text h_shown h_now_cells h_past_cells : Nat)  (sz : Nat) (f_remembered : Int32) (f_oldest : Int32) (f_now_cells : Nat → Int32) (f_past_cells : Nat → Int32) (x1 : Int32) (x2 : Int32) (K : Int32 → ((Nat → Int32) × (Nat → Int32) × Int32 × Int32) → Prop) (KX : String → ((Nat → Int32) × (Nat → Int32) × Int32 × Int32) → Prop) (hk : xp_X4_shoot f_now_cells f_past_cells f_remembered f_oldest x1 x2 K KX) : XMx l yX4_shoot wsX4_shoot ({ frames := 6, cells := 1, slots := 6, locals := 92 } : Room) D (xTY cI cC cZ cL) sf tL tH [.ref h, .int x1, .int x2] [(h, .inr (4, [.ref h_now, .ref h_copy, .ref h_past, .ref h_slots, .ref h_saved, .ref h_text, .ref h_shown, .int f_remembered, .int f_oldest])), (h_now, .inr (3, [.ref h_now_cells])), (h_now_cells, .inl (cI, 400, .inl f_now_cells)), (h_past, .inr (2, [.ref h_past_cells, .int 14])), (h_past_cells, .inl (cI, 5600, .inl f_past_cells))] sz (fun (r : Int32) (u : (Nat → Int32) × (Nat → Int32) × Int32 × Int32) => K r u) (fun (E : String) (u : (Nat → Int32) × (Nat → Int32) × Int32 × Int32) => KX E u) (fun (u : (Nat → Int32) × (Nat → Int32) × Int32 × Int32) => [(h, .inr (4, [.ref h_now, .ref h_copy, .ref h_past, .ref h_slots, .ref h_saved, .ref h_text, .ref h_shown, .int u.2.2.1, .int u.2.2.2])), (h_now, .inr (3, [.ref h_now_cells])), (h_now_cells, .inl (cI, 400, .inl u.1)), (h_past, .inr (2, [.ref h_past_cells, .int 14])), (h_past_cells, .inl (cI, 5600, .inl u.2.1))]) :=
  x_enterX (cc := cX4_shoot) (maxL := 3) (ret := (some .int)) (own := RX4) (by decide) rfl rfl (Nat.le_of_ble_eq_true rfl) (fun p e s m below meth c ls C0 T0 hne hA hP hD hS hl => xb_X4_shoot_0 C0 hA T0 hl0 hne _ _ _ _ _ _ hk s.heap [] ls hP hD hS hl)
set_option maxRecDepth 20000 in
theorem xw_X4_circle_IO : ∀ w ∈ (vx_atS RX4 101 xIO xNm).filter goodWord, w ∈ wsX4_circle := by decide +kernel
set_option maxRecDepth 20000 in
theorem xin_X4_circle_X2 : ∀ w ∈ u_ws RX2 TX2 2, w ∈ wsX4_circle := by decide +kernel
set_option maxRecDepth 20000 in
theorem xin_X4_circle_X3 : ∀ w ∈ u_ws RX3 TX3 1, w ∈ wsX4_circle := by decide +kernel
set_option maxRecDepth 20000 in
theorem xin_X4_circle_X4 : ∀ w ∈ u_ws RX4 TX4 9, w ∈ wsX4_circle := by decide +kernel
set_option maxHeartbeats 4000000 in
set_option maxRecDepth 100000 in
theorem xb_X4_circle_0 {p : Program} {l : Launch} {e : Env} {s : State} {m : MethodId} {args : Array Value} {below : List Frame} {meth : Method} {c : Code} {A : Nat → Prop} {D : va_G} {cI cC cZ cL : ClassId} {sf : Nat → Nat} {tL tH : Nat} {h h_now h_copy h_past h_slots h_saved h_text h_shown h_now_cells h_past_cells : Nat}   {K : Int32 → ((Nat → Int32) × (Nat → Int32) × Int32 × Int32) → Prop} {KX : String → ((Nat → Int32) × (Nat → Int32) × Int32 × Int32) → Prop}  (C0 : xC p s m args meth c cX4_circle 3 (some .int) wsX4_circle RX4 D (xTY cI cC cZ cL)) (hA : ∀ q : Nat, s.heap.size ≤ q → A q) (T0 : xT sf tL tH A s s.heap) (hl0 : l.stackTraces = false) (hne : ∀ x ∈ c.exceptionTable.toList, False)  : ∀ (f_now_cells : Nat → Int32) (f_past_cells : Nat → Int32) (f_remembered : Int32) (f_oldest : Int32) (x1 : Int32) (x2 : Int32) , xp_X4_circle f_now_cells f_past_cells f_remembered f_oldest x1 x2 K KX → ∀ (H : Heap) (locs : List Loc) (ls : Array Slot), va_P D vwCl [(h, .inr (4, [.ref h_now, .ref h_copy, .ref h_past, .ref h_slots, .ref h_saved, .ref h_text, .ref h_shown, .int f_remembered, .int f_oldest])), (h_now, .inr (3, [.ref h_now_cells])), (h_now_cells, .inl (cI, 400, .inl f_now_cells)), (h_past, .inr (2, [.ref h_past_cells, .int 14])), (h_past_cells, .inl (cI, 5600, .inl f_past_cells))] H → va_D A [(h, .inr (4, [.ref h_now, .ref h_copy, .ref h_past, .ref h_slots, .ref h_saved, .ref h_text, .ref h_shown, .int f_remembered, .int f_oldest])), (h_now, .inr (3, [.ref h_now_cells])), (h_now_cells, .inl (cI, 400, .inl f_now_cells)), (h_past, .inr (2, [.ref h_past_cells, .int 14])), (h_past_cells, .inl (cI, 5600, .inl f_past_cells))] → va_S A s.heap H locs → lv_has ls 3 [(0, .ref h), (1, .int x1), (2, .int x2)] → W p l e ({ frames := 6, cells := 1, slots := 6, locals := 92 } : Room) s m args below meth c H locs 0 0 (vx_MQ below (va_Qi (fun (r : Int32) (u : (Nat → Int32) × (Nat → Int32) × Int32 × Int32) => K r u) (fun u t => xE D A ((fun (u : (Nat → Int32) × (Nat → Int32) × Int32 × Int32) => [(h, .inr (4, [.ref h_now, .ref h_copy, .ref h_past, .ref h_slots, .ref h_saved, .ref h_text, .ref h_shown, .int u.2.2.1, .int u.2.2.2])), (h_now, .inr (3, [.ref h_now_cells])), (h_now_cells, .inl (cI, 400, .inl u.1)), (h_past, .inr (2, [.ref h_past_cells, .int 14])), (h_past_cells, .inl (cI, 5600, .inl u.2.1))]) u) t) A) (vx_X (fun (_ : (Nat → Int32) × (Nat → Int32) × Int32 × Int32) => True) (fun E u t => ((fun (E : String) (u : (Nat → Int32) × (Nat → Int32) × Int32 × Int32) => KX E u) E u) ∧ xE D A ((fun (u : (Nat → Int32) × (Nat → Int32) × Int32 × Int32) => [(h, .inr (4, [.ref h_now, .ref h_copy, .ref h_past, .ref h_slots, .ref h_saved, .ref h_text, .ref h_shown, .int u.2.2.1, .int u.2.2.2])), (h_now, .inr (3, [.ref h_now_cells])), (h_now_cells, .inl (cI, 400, .inl u.1)), (h_past, .inr (2, [.ref h_past_cells, .int 14])), (h_past_cells, .inl (cI, 5600, .inl u.2.1))]) u) t) A) args s 1 6 A) (F0 m 0 ls []) := by
  obtain ⟨hx, hb, hr, hml, hown, hts, hlocks, hK, hN⟩ := id C0
  intro f_now_cells f_past_cells f_remembered f_oldest x1 x2 hk H locs ls hP hD hS hl
  rw [xp_X4_circle] at hk
  refine lv_aload_n hx hb dX4_circle_0 rfl (lv_at hl 0 rfl) ?_
  refine va_get (D := D) (ci := 4) (v := .ref h_now) (C := RX4) (T := TX4) (N := 9) hx hb hts xin_X4_circle_X4 hown hK hP 0 rfl rfl 0 (by decide) (hts (.fieldLink RX4 12 "TakeLog" "now" "LTakeLog$State;") (by decide +kernel)) (fun _ h9 => h9) rfl dX4_circle_1 ?_
  refine lv_iload_n hx hb dX4_circle_4 rfl (lv_at hl 1 rfl) ?_
  refine x_joini (ws1 := fun (_ : Unit) => [(h, .inr (4, [.ref h_now, .ref h_copy, .ref h_past, .ref h_slots, .ref h_saved, .ref h_text, .ref h_shown, .int f_remembered, .int f_oldest])), (h_now, .inr (3, [.ref h_now_cells])), (h_now_cells, .inl (cI, 400, .inl f_now_cells)), (h_past, .inr (2, [.ref h_past_cells, .int 14])), (h_past_cells, .inl (cI, 5600, .inl f_past_cells))]) (x_runV (n0 := 1) (As := [.int x1]) (rest := []) C0 (xc_X3_hasTake l D cI cC cZ cL h_now h_now_cells H.size f_now_cells x1 _ hk) gX4_circle_X3_hasTake rfl ⟨rfl, rfl⟩ (by decide +kernel) rfl ⟨by decide, by decide⟩ ⟨Nat.zero_le _, Nat.zero_le _⟩ hP hD [1, 2] rfl rfl (k := 1) rfl rfl rfl hl.1 rfl (Nat.le_of_ble_eq_true rfl) dX4_circle_5) hP hD hS hA [1, 2] [0, 3, 4] [0, 3, 4, 1, 2] rfl rfl rfl (by decide) (fun _ => rfl) rfl (fun r1 u1 H locs hk hP hD hS => ?_)
  refine lv_if_ne (tgt := 21) hx hb dX4_circle_8 (by decide) (fun c2 => ?_) (fun c2 => ?_)
  · have hk := hk.1 c2
    refine lv_aload_n hx hb dX4_circle_21 rfl (lv_at hl 0 rfl) ?_
    refine x_joinv (ws1 := fun (u3 : (Nat → Int32) × Int32 × Int32) => [(h, .inr (4, [.ref h_now, .ref h_copy, .ref h_past, .ref h_slots, .ref h_saved, .ref h_text, .ref h_shown, .int u3.2.1, .int u3.2.2])), (h_now, .inr (3, [.ref h_now_cells])), (h_now_cells, .inl (cI, 400, .inl f_now_cells)), (h_past, .inr (2, [.ref h_past_cells, .int 14])), (h_past_cells, .inl (cI, 5600, .inl u3.1))]) (x_runV (n0 := 0) (As := []) (rest := []) C0 (xc_X4_remember l D cI cC cZ cL h h_now h_copy h_past h_slots h_saved h_text h_shown h_now_cells h_past_cells H.size f_remembered f_oldest f_now_cells f_past_cells _ hk) gX4_circle_X4_remember rfl ⟨rfl, rfl⟩ (by decide +kernel) rfl ⟨by decide, by decide⟩ ⟨Nat.zero_le _, Nat.zero_le _⟩ hP hD [0, 1, 2, 3, 4] rfl rfl (k := 0) rfl rfl rfl hl.1 rfl (Nat.le_of_ble_eq_true rfl) dX4_circle_22) hP hD hS hA [0, 1, 2, 3, 4] [] [0, 1, 2, 3, 4] rfl rfl rfl (by decide) (fun _ => rfl) rfl (fun u3 H locs hk hP hD hS => ?_)
    refine lv_aload_n hx hb dX4_circle_25 rfl (lv_at hl 0 rfl) ?_
    refine va_get (D := D) (ci := 4) (v := .ref h_now) (C := RX4) (T := TX4) (N := 9) hx hb hts xin_X4_circle_X4 hown hK hP 0 rfl rfl 0 (by decide) (hts (.fieldLink RX4 12 "TakeLog" "now" "LTakeLog$State;") (by decide +kernel)) (fun _ h9 => h9) rfl dX4_circle_26 ?_
    refine lv_iload_n hx hb dX4_circle_29 rfl (lv_at hl 1 rfl) ?_
    refine lv_bipush (v := 14) hx hb dX4_circle_30 (by decide) ?_
    refine lv_iload_n hx hb dX4_circle_32 rfl (lv_at hl 2 rfl) ?_
    refine x_joini (ws1 := fun (u4 : (Nat → Int32)) => [(h, .inr (4, [.ref h_now, .ref h_copy, .ref h_past, .ref h_slots, .ref h_saved, .ref h_text, .ref h_shown, .int u3.2.1, .int u3.2.2])), (h_now, .inr (3, [.ref h_now_cells])), (h_now_cells, .inl (cI, 400, .inl u4)), (h_past, .inr (2, [.ref h_past_cells, .int 14])), (h_past_cells, .inl (cI, 5600, .inl u3.1))]) (x_runV (n0 := 3) (As := [.int x1, .int 14, .int x2]) (rest := []) C0 (xc_X3_mark l D cI cC cZ cL h_now h_now_cells H.size f_now_cells x1 14 x2 _ hk) gX4_circle_X3_mark rfl ⟨rfl, rfl⟩ (by decide +kernel) rfl ⟨by decide, by decide⟩ ⟨Nat.zero_le _, Nat.zero_le _⟩ hP hD [1, 2] rfl rfl (k := 1) rfl rfl rfl hl.1 rfl (Nat.le_of_ble_eq_true rfl) dX4_circle_33) hP hD hS hA [1, 2] [0, 3, 4] [0, 3, 4, 1, 2] rfl rfl rfl (by decide) (fun _ => rfl) rfl (fun r4 u4 H locs hk hP hD hS => ?_)
    refine lv_pop hx hb dX4_circle_36 rfl ?_
    refine lv_aload_n hx hb dX4_circle_37 rfl (lv_at hl 0 rfl) ?_
    refine va_get (D := D) (ci := 4) (v := .ref h_now) (C := RX4) (T := TX4) (N := 9) hx hb hts xin_X4_circle_X4 hown hK hP 0 rfl rfl 0 (by decide) (hts (.fieldLink RX4 12 "TakeLog" "now" "LTakeLog$State;") (by decide +kernel)) (fun _ h9 => h9) rfl dX4_circle_38 ?_
    refine lv_bipush (v := 14) hx hb dX4_circle_41 (by decide) ?_
    refine x_joini (ws1 := fun (_ : Unit) => [(h, .inr (4, [.ref h_now, .ref h_copy, .ref h_past, .ref h_slots, .ref h_saved, .ref h_text, .ref h_shown, .int u3.2.1, .int u3.2.2])), (h_now, .inr (3, [.ref h_now_cells])), (h_now_cells, .inl (cI, 400, .inl u4)), (h_past, .inr (2, [.ref h_past_cells, .int 14])), (h_past_cells, .inl (cI, 5600, .inl u3.1))]) (x_runV (n0 := 1) (As := [.int 14]) (rest := []) C0 (xc_X3_marked l D cI cC cZ cL h_now h_now_cells H.size u4 14 _ hk) gX4_circle_X3_marked rfl ⟨rfl, rfl⟩ (by decide +kernel) rfl ⟨by decide, by decide⟩ ⟨Nat.zero_le _, Nat.zero_le _⟩ hP hD [1, 2] rfl rfl (k := 1) rfl rfl rfl hl.1 rfl (Nat.le_of_ble_eq_true rfl) dX4_circle_43) hP hD hS hA [1, 2] [0, 3, 4] [0, 3, 4, 1, 2] rfl rfl rfl (by decide) (fun _ => rfl) rfl (fun r5 u5 H locs hk hP hD hS => ?_)
    exact x_retiX C0 (u4, u3.1, u3.2.1, u3.2.2) hk hP hD hS dX4_circle_46
  · have hk := hk.2 c2
    exact x_thr (text := "there is no such take") C0 T0 hl0 hne (f_now_cells, f_past_cells, f_remembered, f_oldest) hk hP hD hS hl.1 (by decide +kernel) (by decide +kernel) (by decide +kernel) xw_X4_circle_IO x_ngIO x_otIO (by decide +kernel) (by decide) (Nat.le_of_ble_eq_true rfl) (by decide) (by decide) dX4_circle_11 dX4_circle_14 dX4_circle_15 dX4_circle_17 dX4_circle_20
theorem xc_X4_circle (l : Launch) (hl0 : l.stackTraces = false) (D : va_G) (cI cC cZ cL : ClassId) (sf : Nat → Nat) (tL tH : Nat) (h h_now h_copy h_past h_slots h_saved h_text h_shown h_now_cells h_past_cells : Nat)  (sz : Nat) (f_remembered : Int32) (f_oldest : Int32) (f_now_cells : Nat → Int32) (f_past_cells : Nat → Int32) (x1 : Int32) (x2 : Int32) (K : Int32 → ((Nat → Int32) × (Nat → Int32) × Int32 × Int32) → Prop) (KX : String → ((Nat → Int32) × (Nat → Int32) × Int32 × Int32) → Prop) (hk : xp_X4_circle f_now_cells f_past_cells f_remembered f_oldest x1 x2 K KX) : XMx l yX4_circle wsX4_circle ({ frames := 6, cells := 1, slots := 6, locals := 92 } : Room) D (xTY cI cC cZ cL) sf tL tH [.ref h, .int x1, .int x2] [(h, .inr (4, [.ref h_now, .ref h_copy, .ref h_past, .ref h_slots, .ref h_saved, .ref h_text, .ref h_shown, .int f_remembered, .int f_oldest])), (h_now, .inr (3, [.ref h_now_cells])), (h_now_cells, .inl (cI, 400, .inl f_now_cells)), (h_past, .inr (2, [.ref h_past_cells, .int 14])), (h_past_cells, .inl (cI, 5600, .inl f_past_cells))] sz (fun (r : Int32) (u : (Nat → Int32) × (Nat → Int32) × Int32 × Int32) => K r u) (fun (E : String) (u : (Nat → Int32) × (Nat → Int32) × Int32 × Int32) => KX E u) (fun (u : (Nat → Int32) × (Nat → Int32) × Int32 × Int32) => [(h, .inr (4, [.ref h_now, .ref h_copy, .ref h_past, .ref h_slots, .ref h_saved, .ref h_text, .ref h_shown, .int u.2.2.1, .int u.2.2.2])), (h_now, .inr (3, [.ref h_now_cells])), (h_now_cells, .inl (cI, 400, .inl u.1)), (h_past, .inr (2, [.ref h_past_cells, .int 14])), (h_past_cells, .inl (cI, 5600, .inl u.2.1))]) :=
  x_enterX (cc := cX4_circle) (maxL := 3) (ret := (some .int)) (own := RX4) (by decide) rfl rfl (Nat.le_of_ble_eq_true rfl) (fun p e s m below meth c ls C0 T0 hne hA hP hD hS hl => xb_X4_circle_0 C0 hA T0 hl0 hne _ _ _ _ _ _ hk s.heap [] ls hP hD hS hl)
set_option maxRecDepth 20000 in
theorem xw_X4_falseStart_IO : ∀ w ∈ (vx_atS RX4 101 xIO xNm).filter goodWord, w ∈ wsX4_falseStart := by decide +kernel
set_option maxRecDepth 20000 in
theorem xin_X4_falseStart_X2 : ∀ w ∈ u_ws RX2 TX2 2, w ∈ wsX4_falseStart := by decide +kernel
set_option maxRecDepth 20000 in
theorem xin_X4_falseStart_X3 : ∀ w ∈ u_ws RX3 TX3 1, w ∈ wsX4_falseStart := by decide +kernel
set_option maxRecDepth 20000 in
theorem xin_X4_falseStart_X4 : ∀ w ∈ u_ws RX4 TX4 9, w ∈ wsX4_falseStart := by decide +kernel
set_option maxHeartbeats 4000000 in
set_option maxRecDepth 100000 in
theorem xb_X4_falseStart_0 {p : Program} {l : Launch} {e : Env} {s : State} {m : MethodId} {args : Array Value} {below : List Frame} {meth : Method} {c : Code} {A : Nat → Prop} {D : va_G} {cI cC cZ cL : ClassId} {sf : Nat → Nat} {tL tH : Nat} {h h_now h_copy h_past h_slots h_saved h_text h_shown h_now_cells h_past_cells : Nat}   {K : Int32 → ((Nat → Int32) × (Nat → Int32) × Int32 × Int32) → Prop} {KX : String → ((Nat → Int32) × (Nat → Int32) × Int32 × Int32) → Prop}  (C0 : xC p s m args meth c cX4_falseStart 3 (some .int) wsX4_falseStart RX4 D (xTY cI cC cZ cL)) (hA : ∀ q : Nat, s.heap.size ≤ q → A q) (T0 : xT sf tL tH A s s.heap) (hl0 : l.stackTraces = false) (hne : ∀ x ∈ c.exceptionTable.toList, False)  : ∀ (f_now_cells : Nat → Int32) (f_past_cells : Nat → Int32) (f_remembered : Int32) (f_oldest : Int32) (x1 : Int32) (x2 : Int32) , xp_X4_falseStart f_now_cells f_past_cells f_remembered f_oldest x1 x2 K KX → ∀ (H : Heap) (locs : List Loc) (ls : Array Slot), va_P D vwCl [(h, .inr (4, [.ref h_now, .ref h_copy, .ref h_past, .ref h_slots, .ref h_saved, .ref h_text, .ref h_shown, .int f_remembered, .int f_oldest])), (h_now, .inr (3, [.ref h_now_cells])), (h_now_cells, .inl (cI, 400, .inl f_now_cells)), (h_past, .inr (2, [.ref h_past_cells, .int 14])), (h_past_cells, .inl (cI, 5600, .inl f_past_cells))] H → va_D A [(h, .inr (4, [.ref h_now, .ref h_copy, .ref h_past, .ref h_slots, .ref h_saved, .ref h_text, .ref h_shown, .int f_remembered, .int f_oldest])), (h_now, .inr (3, [.ref h_now_cells])), (h_now_cells, .inl (cI, 400, .inl f_now_cells)), (h_past, .inr (2, [.ref h_past_cells, .int 14])), (h_past_cells, .inl (cI, 5600, .inl f_past_cells))] → va_S A s.heap H locs → lv_has ls 3 [(0, .ref h), (1, .int x1), (2, .int x2)] → W p l e ({ frames := 6, cells := 1, slots := 6, locals := 132 } : Room) s m args below meth c H locs 0 0 (vx_MQ below (va_Qi (fun (r : Int32) (u : (Nat → Int32) × (Nat → Int32) × Int32 × Int32) => K r u) (fun u t => xE D A ((fun (u : (Nat → Int32) × (Nat → Int32) × Int32 × Int32) => [(h, .inr (4, [.ref h_now, .ref h_copy, .ref h_past, .ref h_slots, .ref h_saved, .ref h_text, .ref h_shown, .int u.2.2.1, .int u.2.2.2])), (h_now, .inr (3, [.ref h_now_cells])), (h_now_cells, .inl (cI, 400, .inl u.1)), (h_past, .inr (2, [.ref h_past_cells, .int 14])), (h_past_cells, .inl (cI, 5600, .inl u.2.1))]) u) t) A) (vx_X (fun (_ : (Nat → Int32) × (Nat → Int32) × Int32 × Int32) => True) (fun E u t => ((fun (E : String) (u : (Nat → Int32) × (Nat → Int32) × Int32 × Int32) => KX E u) E u) ∧ xE D A ((fun (u : (Nat → Int32) × (Nat → Int32) × Int32 × Int32) => [(h, .inr (4, [.ref h_now, .ref h_copy, .ref h_past, .ref h_slots, .ref h_saved, .ref h_text, .ref h_shown, .int u.2.2.1, .int u.2.2.2])), (h_now, .inr (3, [.ref h_now_cells])), (h_now_cells, .inl (cI, 400, .inl u.1)), (h_past, .inr (2, [.ref h_past_cells, .int 14])), (h_past_cells, .inl (cI, 5600, .inl u.2.1))]) u) t) A) args s 1 6 A) (F0 m 0 ls []) := by
  obtain ⟨hx, hb, hr, hml, hown, hts, hlocks, hK, hN⟩ := id C0
  intro f_now_cells f_past_cells f_remembered f_oldest x1 x2 hk H locs ls hP hD hS hl
  rw [xp_X4_falseStart] at hk
  refine lv_aload_n hx hb dX4_falseStart_0 rfl (lv_at hl 0 rfl) ?_
  refine va_get (D := D) (ci := 4) (v := .ref h_now) (C := RX4) (T := TX4) (N := 9) hx hb hts xin_X4_falseStart_X4 hown hK hP 0 rfl rfl 0 (by decide) (hts (.fieldLink RX4 12 "TakeLog" "now" "LTakeLog$State;") (by decide +kernel)) (fun _ h9 => h9) rfl dX4_falseStart_1 ?_
  refine lv_iload_n hx hb dX4_falseStart_4 rfl (lv_at hl 1 rfl) ?_
  refine x_joini (ws1 := fun (_ : Unit) => [(h, .inr (4, [.ref h_now, .ref h_copy, .ref h_past, .ref h_slots, .ref h_saved, .ref h_text, .ref h_shown, .int f_remembered, .int f_oldest])), (h_now, .inr (3, [.ref h_now_cells])), (h_now_cells, .inl (cI, 400, .inl f_now_cells)), (h_past, .inr (2, [.ref h_past_cells, .int 14])), (h_past_cells, .inl (cI, 5600, .inl f_past_cells))]) (x_runV (n0 := 1) (As := [.int x1]) (rest := []) C0 (xc_X3_hasTake l D cI cC cZ cL h_now h_now_cells H.size f_now_cells x1 _ hk) gX4_falseStart_X3_hasTake rfl ⟨rfl, rfl⟩ (by decide +kernel) rfl ⟨by decide, by decide⟩ ⟨Nat.zero_le _, Nat.zero_le _⟩ hP hD [1, 2] rfl rfl (k := 1) rfl rfl rfl hl.1 rfl (Nat.le_of_ble_eq_true rfl) dX4_falseStart_5) hP hD hS hA [1, 2] [0, 3, 4] [0, 3, 4, 1, 2] rfl rfl rfl (by decide) (fun _ => rfl) rfl (fun r1 u1 H locs hk hP hD hS => ?_)
  refine lv_if_ne (tgt := 21) hx hb dX4_falseStart_8 (by decide) (fun c2 => ?_) (fun c2 => ?_)
  · have hk := hk.1 c2
    refine lv_aload_n hx hb dX4_falseStart_21 rfl (lv_at hl 0 rfl) ?_
    refine x_joinv (ws1 := fun (u3 : (Nat → Int32) × Int32 × Int32) => [(h, .inr (4, [.ref h_now, .ref h_copy, .ref h_past, .ref h_slots, .ref h_saved, .ref h_text, .ref h_shown, .int u3.2.1, .int u3.2.2])), (h_now, .inr (3, [.ref h_now_cells])), (h_now_cells, .inl (cI, 400, .inl f_now_cells)), (h_past, .inr (2, [.ref h_past_cells, .int 14])), (h_past_cells, .inl (cI, 5600, .inl u3.1))]) (x_runV (n0 := 0) (As := []) (rest := []) C0 (xc_X4_remember l D cI cC cZ cL h h_now h_copy h_past h_slots h_saved h_text h_shown h_now_cells h_past_cells H.size f_remembered f_oldest f_now_cells f_past_cells _ hk) gX4_falseStart_X4_remember rfl ⟨rfl, rfl⟩ (by decide +kernel) rfl ⟨by decide, by decide⟩ ⟨Nat.zero_le _, Nat.zero_le _⟩ hP hD [0, 1, 2, 3, 4] rfl rfl (k := 0) rfl rfl rfl hl.1 rfl (Nat.le_of_ble_eq_true rfl) dX4_falseStart_22) hP hD hS hA [0, 1, 2, 3, 4] [] [0, 1, 2, 3, 4] rfl rfl rfl (by decide) (fun _ => rfl) rfl (fun u3 H locs hk hP hD hS => ?_)
    refine lv_aload_n hx hb dX4_falseStart_25 rfl (lv_at hl 0 rfl) ?_
    refine va_get (D := D) (ci := 4) (v := .ref h_now) (C := RX4) (T := TX4) (N := 9) hx hb hts xin_X4_falseStart_X4 hown hK hP 0 rfl rfl 0 (by decide) (hts (.fieldLink RX4 12 "TakeLog" "now" "LTakeLog$State;") (by decide +kernel)) (fun _ h9 => h9) rfl dX4_falseStart_26 ?_
    refine lv_iload_n hx hb dX4_falseStart_29 rfl (lv_at hl 1 rfl) ?_
    refine lv_bipush (v := 15) hx hb dX4_falseStart_30 (by decide) ?_
    refine lv_iload_n hx hb dX4_falseStart_32 rfl (lv_at hl 2 rfl) ?_
    refine x_joini (ws1 := fun (u4 : (Nat → Int32)) => [(h, .inr (4, [.ref h_now, .ref h_copy, .ref h_past, .ref h_slots, .ref h_saved, .ref h_text, .ref h_shown, .int u3.2.1, .int u3.2.2])), (h_now, .inr (3, [.ref h_now_cells])), (h_now_cells, .inl (cI, 400, .inl u4)), (h_past, .inr (2, [.ref h_past_cells, .int 14])), (h_past_cells, .inl (cI, 5600, .inl u3.1))]) (x_runV (n0 := 3) (As := [.int x1, .int 15, .int x2]) (rest := []) C0 (xc_X3_mark l D cI cC cZ cL h_now h_now_cells H.size f_now_cells x1 15 x2 _ hk) gX4_falseStart_X3_mark rfl ⟨rfl, rfl⟩ (by decide +kernel) rfl ⟨by decide, by decide⟩ ⟨Nat.zero_le _, Nat.zero_le _⟩ hP hD [1, 2] rfl rfl (k := 1) rfl rfl rfl hl.1 rfl (Nat.le_of_ble_eq_true rfl) dX4_falseStart_33) hP hD hS hA [1, 2] [0, 3, 4] [0, 3, 4, 1, 2] rfl rfl rfl (by decide) (fun _ => rfl) rfl (fun r4 u4 H locs hk hP hD hS => ?_)
    refine lv_pop hx hb dX4_falseStart_36 rfl ?_
    refine lv_aload_n hx hb dX4_falseStart_37 rfl (lv_at hl 0 rfl) ?_
    refine va_get (D := D) (ci := 4) (v := .ref h_now) (C := RX4) (T := TX4) (N := 9) hx hb hts xin_X4_falseStart_X4 hown hK hP 0 rfl rfl 0 (by decide) (hts (.fieldLink RX4 12 "TakeLog" "now" "LTakeLog$State;") (by decide +kernel)) (fun _ h9 => h9) rfl dX4_falseStart_38 ?_
    refine x_joini (ws1 := fun (_ : Unit) => [(h, .inr (4, [.ref h_now, .ref h_copy, .ref h_past, .ref h_slots, .ref h_saved, .ref h_text, .ref h_shown, .int u3.2.1, .int u3.2.2])), (h_now, .inr (3, [.ref h_now_cells])), (h_now_cells, .inl (cI, 400, .inl u4)), (h_past, .inr (2, [.ref h_past_cells, .int 14])), (h_past_cells, .inl (cI, 5600, .inl u3.1))]) (x_runV (n0 := 0) (As := []) (rest := []) C0 (xc_X3_wrongSlates l D cI cC cZ cL h_now h_now_cells H.size u4 _ hk) gX4_falseStart_X3_wrongSlates rfl ⟨rfl, rfl⟩ (by decide +kernel) rfl ⟨by decide, by decide⟩ ⟨Nat.zero_le _, Nat.zero_le _⟩ hP hD [1, 2] rfl rfl (k := 1) rfl rfl rfl hl.1 rfl (Nat.le_of_ble_eq_true rfl) dX4_falseStart_41) hP hD hS hA [1, 2] [0, 3, 4] [0, 3, 4, 1, 2] rfl rfl rfl (by decide) (fun _ => rfl) rfl (fun r5 u5 H locs hk hP hD hS => ?_)
    exact x_retiX C0 (u4, u3.1, u3.2.1, u3.2.2) hk hP hD hS dX4_falseStart_44
  · have hk := hk.2 c2
    exact x_thr (text := "there is no such take") C0 T0 hl0 hne (f_now_cells, f_past_cells, f_remembered, f_oldest) hk hP hD hS hl.1 (by decide +kernel) (by decide +kernel) (by decide +kernel) xw_X4_falseStart_IO x_ngIO x_otIO (by decide +kernel) (by decide) (Nat.le_of_ble_eq_true rfl) (by decide) (by decide) dX4_falseStart_11 dX4_falseStart_14 dX4_falseStart_15 dX4_falseStart_17 dX4_falseStart_20
theorem xc_X4_falseStart (l : Launch) (hl0 : l.stackTraces = false) (D : va_G) (cI cC cZ cL : ClassId) (sf : Nat → Nat) (tL tH : Nat) (h h_now h_copy h_past h_slots h_saved h_text h_shown h_now_cells h_past_cells : Nat)  (sz : Nat) (f_remembered : Int32) (f_oldest : Int32) (f_now_cells : Nat → Int32) (f_past_cells : Nat → Int32) (x1 : Int32) (x2 : Int32) (K : Int32 → ((Nat → Int32) × (Nat → Int32) × Int32 × Int32) → Prop) (KX : String → ((Nat → Int32) × (Nat → Int32) × Int32 × Int32) → Prop) (hk : xp_X4_falseStart f_now_cells f_past_cells f_remembered f_oldest x1 x2 K KX) : XMx l yX4_falseStart wsX4_falseStart ({ frames := 6, cells := 1, slots := 6, locals := 132 } : Room) D (xTY cI cC cZ cL) sf tL tH [.ref h, .int x1, .int x2] [(h, .inr (4, [.ref h_now, .ref h_copy, .ref h_past, .ref h_slots, .ref h_saved, .ref h_text, .ref h_shown, .int f_remembered, .int f_oldest])), (h_now, .inr (3, [.ref h_now_cells])), (h_now_cells, .inl (cI, 400, .inl f_now_cells)), (h_past, .inr (2, [.ref h_past_cells, .int 14])), (h_past_cells, .inl (cI, 5600, .inl f_past_cells))] sz (fun (r : Int32) (u : (Nat → Int32) × (Nat → Int32) × Int32 × Int32) => K r u) (fun (E : String) (u : (Nat → Int32) × (Nat → Int32) × Int32 × Int32) => KX E u) (fun (u : (Nat → Int32) × (Nat → Int32) × Int32 × Int32) => [(h, .inr (4, [.ref h_now, .ref h_copy, .ref h_past, .ref h_slots, .ref h_saved, .ref h_text, .ref h_shown, .int u.2.2.1, .int u.2.2.2])), (h_now, .inr (3, [.ref h_now_cells])), (h_now_cells, .inl (cI, 400, .inl u.1)), (h_past, .inr (2, [.ref h_past_cells, .int 14])), (h_past_cells, .inl (cI, 5600, .inl u.2.1))]) :=
  x_enterX (cc := cX4_falseStart) (maxL := 3) (ret := (some .int)) (own := RX4) (by decide) rfl rfl (Nat.le_of_ble_eq_true rfl) (fun p e s m below meth c ls C0 T0 hne hA hP hD hS hl => xb_X4_falseStart_0 C0 hA T0 hl0 hne _ _ _ _ _ _ hk s.heap [] ls hP hD hS hl)
set_option maxRecDepth 20000 in
theorem xw_X4_fix_IO : ∀ w ∈ (vx_atS RX4 101 xIO xNm).filter goodWord, w ∈ wsX4_fix := by decide +kernel
set_option maxRecDepth 20000 in
theorem xin_X4_fix_X2 : ∀ w ∈ u_ws RX2 TX2 2, w ∈ wsX4_fix := by decide +kernel
set_option maxRecDepth 20000 in
theorem xin_X4_fix_X3 : ∀ w ∈ u_ws RX3 TX3 1, w ∈ wsX4_fix := by decide +kernel
set_option maxRecDepth 20000 in
theorem xin_X4_fix_X4 : ∀ w ∈ u_ws RX4 TX4 9, w ∈ wsX4_fix := by decide +kernel
set_option maxHeartbeats 4000000 in
set_option maxRecDepth 100000 in
theorem xb_X4_fix_0 {p : Program} {l : Launch} {e : Env} {s : State} {m : MethodId} {args : Array Value} {below : List Frame} {meth : Method} {c : Code} {A : Nat → Prop} {D : va_G} {cI cC cZ cL : ClassId} {sf : Nat → Nat} {tL tH : Nat} {h h_now h_copy h_past h_slots h_saved h_text h_shown h_now_cells h_past_cells : Nat}   {K : Int32 → ((Nat → Int32) × (Nat → Int32) × Int32 × Int32) → Prop} {KX : String → ((Nat → Int32) × (Nat → Int32) × Int32 × Int32) → Prop}  (C0 : xC p s m args meth c cX4_fix 2 (some .int) wsX4_fix RX4 D (xTY cI cC cZ cL)) (hA : ∀ q : Nat, s.heap.size ≤ q → A q) (T0 : xT sf tL tH A s s.heap) (hl0 : l.stackTraces = false) (hne : ∀ x ∈ c.exceptionTable.toList, False)  : ∀ (f_now_cells : Nat → Int32) (f_past_cells : Nat → Int32) (f_remembered : Int32) (f_oldest : Int32) (x1 : Int32) , xp_X4_fix f_now_cells f_past_cells f_remembered f_oldest x1 K KX → ∀ (H : Heap) (locs : List Loc) (ls : Array Slot), va_P D vwCl [(h, .inr (4, [.ref h_now, .ref h_copy, .ref h_past, .ref h_slots, .ref h_saved, .ref h_text, .ref h_shown, .int f_remembered, .int f_oldest])), (h_now, .inr (3, [.ref h_now_cells])), (h_now_cells, .inl (cI, 400, .inl f_now_cells)), (h_past, .inr (2, [.ref h_past_cells, .int 14])), (h_past_cells, .inl (cI, 5600, .inl f_past_cells))] H → va_D A [(h, .inr (4, [.ref h_now, .ref h_copy, .ref h_past, .ref h_slots, .ref h_saved, .ref h_text, .ref h_shown, .int f_remembered, .int f_oldest])), (h_now, .inr (3, [.ref h_now_cells])), (h_now_cells, .inl (cI, 400, .inl f_now_cells)), (h_past, .inr (2, [.ref h_past_cells, .int 14])), (h_past_cells, .inl (cI, 5600, .inl f_past_cells))] → va_S A s.heap H locs → lv_has ls 2 [(0, .ref h), (1, .int x1)] → W p l e ({ frames := 6, cells := 1, slots := 6, locals := 111 } : Room) s m args below meth c H locs 0 0 (vx_MQ below (va_Qi (fun (r : Int32) (u : (Nat → Int32) × (Nat → Int32) × Int32 × Int32) => K r u) (fun u t => xE D A ((fun (u : (Nat → Int32) × (Nat → Int32) × Int32 × Int32) => [(h, .inr (4, [.ref h_now, .ref h_copy, .ref h_past, .ref h_slots, .ref h_saved, .ref h_text, .ref h_shown, .int u.2.2.1, .int u.2.2.2])), (h_now, .inr (3, [.ref h_now_cells])), (h_now_cells, .inl (cI, 400, .inl u.1)), (h_past, .inr (2, [.ref h_past_cells, .int 14])), (h_past_cells, .inl (cI, 5600, .inl u.2.1))]) u) t) A) (vx_X (fun (_ : (Nat → Int32) × (Nat → Int32) × Int32 × Int32) => True) (fun E u t => ((fun (E : String) (u : (Nat → Int32) × (Nat → Int32) × Int32 × Int32) => KX E u) E u) ∧ xE D A ((fun (u : (Nat → Int32) × (Nat → Int32) × Int32 × Int32) => [(h, .inr (4, [.ref h_now, .ref h_copy, .ref h_past, .ref h_slots, .ref h_saved, .ref h_text, .ref h_shown, .int u.2.2.1, .int u.2.2.2])), (h_now, .inr (3, [.ref h_now_cells])), (h_now_cells, .inl (cI, 400, .inl u.1)), (h_past, .inr (2, [.ref h_past_cells, .int 14])), (h_past_cells, .inl (cI, 5600, .inl u.2.1))]) u) t) A) args s 1 6 A) (F0 m 0 ls []) := by
  obtain ⟨hx, hb, hr, hml, hown, hts, hlocks, hK, hN⟩ := id C0
  intro f_now_cells f_past_cells f_remembered f_oldest x1 hk H locs ls hP hD hS hl
  rw [xp_X4_fix] at hk
  refine lv_aload_n hx hb dX4_fix_0 rfl (lv_at hl 0 rfl) ?_
  refine va_get (D := D) (ci := 4) (v := .ref h_now) (C := RX4) (T := TX4) (N := 9) hx hb hts xin_X4_fix_X4 hown hK hP 0 rfl rfl 0 (by decide) (hts (.fieldLink RX4 12 "TakeLog" "now" "LTakeLog$State;") (by decide +kernel)) (fun _ h9 => h9) rfl dX4_fix_1 ?_
  refine lv_iload_n hx hb dX4_fix_4 rfl (lv_at hl 1 rfl) ?_
  refine x_joini (ws1 := fun (_ : Unit) => [(h, .inr (4, [.ref h_now, .ref h_copy, .ref h_past, .ref h_slots, .ref h_saved, .ref h_text, .ref h_shown, .int f_remembered, .int f_oldest])), (h_now, .inr (3, [.ref h_now_cells])), (h_now_cells, .inl (cI, 400, .inl f_now_cells)), (h_past, .inr (2, [.ref h_past_cells, .int 14])), (h_past_cells, .inl (cI, 5600, .inl f_past_cells))]) (x_runV (n0 := 1) (As := [.int x1]) (rest := []) C0 (xc_X3_hasTake l D cI cC cZ cL h_now h_now_cells H.size f_now_cells x1 _ hk) gX4_fix_X3_hasTake rfl ⟨rfl, rfl⟩ (by decide +kernel) rfl ⟨by decide, by decide⟩ ⟨Nat.zero_le _, Nat.zero_le _⟩ hP hD [1, 2] rfl rfl (k := 1) rfl rfl rfl hl.1 rfl (Nat.le_of_ble_eq_true rfl) dX4_fix_5) hP hD hS hA [1, 2] [0, 3, 4] [0, 3, 4, 1, 2] rfl rfl rfl (by decide) (fun _ => rfl) rfl (fun r1 u1 H locs hk hP hD hS => ?_)
  refine lv_if_ne (tgt := 21) hx hb dX4_fix_8 (by decide) (fun c2 => ?_) (fun c2 => ?_)
  · have hk := hk.1 c2
    refine lv_aload_n hx hb dX4_fix_21 rfl (lv_at hl 0 rfl) ?_
    refine x_joinv (ws1 := fun (u3 : (Nat → Int32) × Int32 × Int32) => [(h, .inr (4, [.ref h_now, .ref h_copy, .ref h_past, .ref h_slots, .ref h_saved, .ref h_text, .ref h_shown, .int u3.2.1, .int u3.2.2])), (h_now, .inr (3, [.ref h_now_cells])), (h_now_cells, .inl (cI, 400, .inl f_now_cells)), (h_past, .inr (2, [.ref h_past_cells, .int 14])), (h_past_cells, .inl (cI, 5600, .inl u3.1))]) (x_runV (n0 := 0) (As := []) (rest := []) C0 (xc_X4_remember l D cI cC cZ cL h h_now h_copy h_past h_slots h_saved h_text h_shown h_now_cells h_past_cells H.size f_remembered f_oldest f_now_cells f_past_cells _ hk) gX4_fix_X4_remember rfl ⟨rfl, rfl⟩ (by decide +kernel) rfl ⟨by decide, by decide⟩ ⟨Nat.zero_le _, Nat.zero_le _⟩ hP hD [0, 1, 2, 3, 4] rfl rfl (k := 0) rfl rfl rfl hl.1 rfl (Nat.le_of_ble_eq_true rfl) dX4_fix_22) hP hD hS hA [0, 1, 2, 3, 4] [] [0, 1, 2, 3, 4] rfl rfl rfl (by decide) (fun _ => rfl) rfl (fun u3 H locs hk hP hD hS => ?_)
    refine lv_aload_n hx hb dX4_fix_25 rfl (lv_at hl 0 rfl) ?_
    refine va_get (D := D) (ci := 4) (v := .ref h_now) (C := RX4) (T := TX4) (N := 9) hx hb hts xin_X4_fix_X4 hown hK hP 0 rfl rfl 0 (by decide) (hts (.fieldLink RX4 12 "TakeLog" "now" "LTakeLog$State;") (by decide +kernel)) (fun _ h9 => h9) rfl dX4_fix_26 ?_
    refine lv_iload_n hx hb dX4_fix_29 rfl (lv_at hl 1 rfl) ?_
    refine x_joini (ws1 := fun (u4 : (Nat → Int32)) => [(h, .inr (4, [.ref h_now, .ref h_copy, .ref h_past, .ref h_slots, .ref h_saved, .ref h_text, .ref h_shown, .int u3.2.1, .int u3.2.2])), (h_now, .inr (3, [.ref h_now_cells])), (h_now_cells, .inl (cI, 400, .inl u4)), (h_past, .inr (2, [.ref h_past_cells, .int 14])), (h_past_cells, .inl (cI, 5600, .inl u3.1))]) (x_runV (n0 := 1) (As := [.int x1]) (rest := []) C0 (xc_X3_putRight l D cI cC cZ cL h_now h_now_cells H.size f_now_cells x1 _ hk) gX4_fix_X3_putRight rfl ⟨rfl, rfl⟩ (by decide +kernel) rfl ⟨by decide, by decide⟩ ⟨Nat.zero_le _, Nat.zero_le _⟩ hP hD [1, 2] rfl rfl (k := 1) rfl rfl rfl hl.1 rfl (Nat.le_of_ble_eq_true rfl) dX4_fix_30) hP hD hS hA [1, 2] [0, 3, 4] [0, 3, 4, 1, 2] rfl rfl rfl (by decide) (fun _ => rfl) rfl (fun r4 u4 H locs hk hP hD hS => ?_)
    refine lv_if_eq (tgt := 40) hx hb dX4_fix_33 (by decide) (fun c5 => ?_) (fun c5 => ?_)
    · have hk := hk.1 c5
      refine lv_iconst (v := 0) hx hb dX4_fix_40 (by decide) ?_
      exact x_retiX C0 (u4, u3.1, u3.2.1, u3.2.2) hk hP hD hS dX4_fix_41
    · have hk := hk.2 c5
      refine lv_iconst (v := 1) hx hb dX4_fix_36 (by decide) ?_
      refine lv_goto (tgt := 41) hx hb dX4_fix_37 (by decide) ?_
      exact x_retiX C0 (u4, u3.1, u3.2.1, u3.2.2) hk hP hD hS dX4_fix_41
  · have hk := hk.2 c2
    exact x_thr (text := "there is no such take") C0 T0 hl0 hne (f_now_cells, f_past_cells, f_remembered, f_oldest) hk hP hD hS hl.1 (by decide +kernel) (by decide +kernel) (by decide +kernel) xw_X4_fix_IO x_ngIO x_otIO (by decide +kernel) (by decide) (Nat.le_of_ble_eq_true rfl) (by decide) (by decide) dX4_fix_11 dX4_fix_14 dX4_fix_15 dX4_fix_17 dX4_fix_20
theorem xc_X4_fix (l : Launch) (hl0 : l.stackTraces = false) (D : va_G) (cI cC cZ cL : ClassId) (sf : Nat → Nat) (tL tH : Nat) (h h_now h_copy h_past h_slots h_saved h_text h_shown h_now_cells h_past_cells : Nat)  (sz : Nat) (f_remembered : Int32) (f_oldest : Int32) (f_now_cells : Nat → Int32) (f_past_cells : Nat → Int32) (x1 : Int32) (K : Int32 → ((Nat → Int32) × (Nat → Int32) × Int32 × Int32) → Prop) (KX : String → ((Nat → Int32) × (Nat → Int32) × Int32 × Int32) → Prop) (hk : xp_X4_fix f_now_cells f_past_cells f_remembered f_oldest x1 K KX) : XMx l yX4_fix wsX4_fix ({ frames := 6, cells := 1, slots := 6, locals := 111 } : Room) D (xTY cI cC cZ cL) sf tL tH [.ref h, .int x1] [(h, .inr (4, [.ref h_now, .ref h_copy, .ref h_past, .ref h_slots, .ref h_saved, .ref h_text, .ref h_shown, .int f_remembered, .int f_oldest])), (h_now, .inr (3, [.ref h_now_cells])), (h_now_cells, .inl (cI, 400, .inl f_now_cells)), (h_past, .inr (2, [.ref h_past_cells, .int 14])), (h_past_cells, .inl (cI, 5600, .inl f_past_cells))] sz (fun (r : Int32) (u : (Nat → Int32) × (Nat → Int32) × Int32 × Int32) => K r u) (fun (E : String) (u : (Nat → Int32) × (Nat → Int32) × Int32 × Int32) => KX E u) (fun (u : (Nat → Int32) × (Nat → Int32) × Int32 × Int32) => [(h, .inr (4, [.ref h_now, .ref h_copy, .ref h_past, .ref h_slots, .ref h_saved, .ref h_text, .ref h_shown, .int u.2.2.1, .int u.2.2.2])), (h_now, .inr (3, [.ref h_now_cells])), (h_now_cells, .inl (cI, 400, .inl u.1)), (h_past, .inr (2, [.ref h_past_cells, .int 14])), (h_past_cells, .inl (cI, 5600, .inl u.2.1))]) :=
  x_enterX (cc := cX4_fix) (maxL := 2) (ret := (some .int)) (own := RX4) (by decide) rfl rfl (Nat.le_of_ble_eq_true rfl) (fun p e s m below meth c ls C0 T0 hne hA hP hD hS hl => xb_X4_fix_0 C0 hA T0 hl0 hne _ _ _ _ _ hk s.heap [] ls hP hD hS hl)
set_option maxRecDepth 20000 in
theorem xw_X4_off_IA : ∀ w ∈ (vx_atS RX4 53 xIA xNm).filter goodWord, w ∈ wsX4_off := by decide +kernel
set_option maxRecDepth 20000 in
theorem xin_X4_off_X4 : ∀ w ∈ u_ws RX4 TX4 9, w ∈ wsX4_off := by decide +kernel
set_option maxRecDepth 20000 in
theorem xin_X4_off_X3 : ∀ w ∈ u_ws RX3 TX3 1, w ∈ wsX4_off := by decide +kernel
set_option maxRecDepth 20000 in
theorem xin_X4_off_X2 : ∀ w ∈ u_ws RX2 TX2 2, w ∈ wsX4_off := by decide +kernel
set_option maxHeartbeats 4000000 in
set_option maxRecDepth 100000 in
theorem xb_X4_off_12 {p : Program} {l : Launch} {e : Env} {s : State} {m : MethodId} {args : Array Value} {below : List Frame} {meth : Method} {c : Code} {A : Nat → Prop} {D : va_G} {cI cC cZ cL : ClassId} {sf : Nat → Nat} {tL tH : Nat} {h h_now h_copy h_past h_slots h_saved h_text h_shown h_now_cells h_past_cells : Nat}   {K : Int32 → ((Nat → Int32) × (Nat → Int32) × Int32 × Int32) → Prop} {KX : String → ((Nat → Int32) × (Nat → Int32) × Int32 × Int32) → Prop}  (C0 : xC p s m args meth c cX4_off 2 (some .int) wsX4_off RX4 D (xTY cI cC cZ cL)) (hA : ∀ q : Nat, s.heap.size ≤ q → A q) (T0 : xT sf tL tH A s s.heap) (hl0 : l.stackTraces = false) (hne : ∀ x ∈ c.exceptionTable.toList, False)  : ∀ (f_now_cells : Nat → Int32) (f_past_cells : Nat → Int32) (f_remembered : Int32) (f_oldest : Int32) , xp_X4_off_12 K KX f_now_cells f_past_cells f_remembered f_oldest → ∀ (H : Heap) (locs : List Loc) (ls : Array Slot), va_P D vwCl [(h, .inr (4, [.ref h_now, .ref h_copy, .ref h_past, .ref h_slots, .ref h_saved, .ref h_text, .ref h_shown, .int f_remembered, .int f_oldest])), (h_now, .inr (3, [.ref h_now_cells])), (h_now_cells, .inl (cI, 400, .inl f_now_cells)), (h_past, .inr (2, [.ref h_past_cells, .int 14])), (h_past_cells, .inl (cI, 5600, .inl f_past_cells))] H → va_D A [(h, .inr (4, [.ref h_now, .ref h_copy, .ref h_past, .ref h_slots, .ref h_saved, .ref h_text, .ref h_shown, .int f_remembered, .int f_oldest])), (h_now, .inr (3, [.ref h_now_cells])), (h_now_cells, .inl (cI, 400, .inl f_now_cells)), (h_past, .inr (2, [.ref h_past_cells, .int 14])), (h_past_cells, .inl (cI, 5600, .inl f_past_cells))] → va_S A s.heap H locs → lv_has ls 2 [] → W p l e ({ frames := 6, cells := 1, slots := 6, locals := 92 } : Room) s m args below meth c H locs 0 0 (vx_MQ below (va_Qi (fun (r : Int32) (u : (Nat → Int32) × (Nat → Int32) × Int32 × Int32) => K r u) (fun u t => xE D A ((fun (u : (Nat → Int32) × (Nat → Int32) × Int32 × Int32) => [(h, .inr (4, [.ref h_now, .ref h_copy, .ref h_past, .ref h_slots, .ref h_saved, .ref h_text, .ref h_shown, .int u.2.2.1, .int u.2.2.2])), (h_now, .inr (3, [.ref h_now_cells])), (h_now_cells, .inl (cI, 400, .inl u.1)), (h_past, .inr (2, [.ref h_past_cells, .int 14])), (h_past_cells, .inl (cI, 5600, .inl u.2.1))]) u) t) A) (vx_X (fun (_ : (Nat → Int32) × (Nat → Int32) × Int32 × Int32) => True) (fun E u t => ((fun (E : String) (u : (Nat → Int32) × (Nat → Int32) × Int32 × Int32) => KX E u) E u) ∧ xE D A ((fun (u : (Nat → Int32) × (Nat → Int32) × Int32 × Int32) => [(h, .inr (4, [.ref h_now, .ref h_copy, .ref h_past, .ref h_slots, .ref h_saved, .ref h_text, .ref h_shown, .int u.2.2.1, .int u.2.2.2])), (h_now, .inr (3, [.ref h_now_cells])), (h_now_cells, .inl (cI, 400, .inl u.1)), (h_past, .inr (2, [.ref h_past_cells, .int 14])), (h_past_cells, .inl (cI, 5600, .inl u.2.1))]) u) t) A) args s 1 6 A) (F0 m 12 ls []) := by
  obtain ⟨hx, hb, hr, hml, hown, hts, hlocks, hK, hN⟩ := id C0
  intro f_now_cells f_past_cells f_remembered f_oldest hk H locs ls hP hD hS hl
  rw [xp_X4_off_12] at hk
  exact x_thr (text := "the seconds are not -99 to 99") C0 T0 hl0 hne (f_now_cells, f_past_cells, f_remembered, f_oldest) hk hP hD hS hl.1 (by decide +kernel) (by decide +kernel) (by decide +kernel) xw_X4_off_IA x_ngIA x_otIA (by decide +kernel) (by decide) (Nat.le_of_ble_eq_true rfl) (by decide) (by decide) dX4_off_12 dX4_off_15 dX4_off_16 dX4_off_18 dX4_off_21
set_option maxHeartbeats 4000000 in
set_option maxRecDepth 100000 in
theorem xb_X4_off_0 {p : Program} {l : Launch} {e : Env} {s : State} {m : MethodId} {args : Array Value} {below : List Frame} {meth : Method} {c : Code} {A : Nat → Prop} {D : va_G} {cI cC cZ cL : ClassId} {sf : Nat → Nat} {tL tH : Nat} {h h_now h_copy h_past h_slots h_saved h_text h_shown h_now_cells h_past_cells : Nat}   {K : Int32 → ((Nat → Int32) × (Nat → Int32) × Int32 × Int32) → Prop} {KX : String → ((Nat → Int32) × (Nat → Int32) × Int32 × Int32) → Prop}  (C0 : xC p s m args meth c cX4_off 2 (some .int) wsX4_off RX4 D (xTY cI cC cZ cL)) (hA : ∀ q : Nat, s.heap.size ≤ q → A q) (T0 : xT sf tL tH A s s.heap) (hl0 : l.stackTraces = false) (hne : ∀ x ∈ c.exceptionTable.toList, False)  : ∀ (f_now_cells : Nat → Int32) (f_past_cells : Nat → Int32) (f_remembered : Int32) (f_oldest : Int32) (x1 : Int32) , xp_X4_off f_now_cells f_past_cells f_remembered f_oldest x1 K KX → ∀ (H : Heap) (locs : List Loc) (ls : Array Slot), va_P D vwCl [(h, .inr (4, [.ref h_now, .ref h_copy, .ref h_past, .ref h_slots, .ref h_saved, .ref h_text, .ref h_shown, .int f_remembered, .int f_oldest])), (h_now, .inr (3, [.ref h_now_cells])), (h_now_cells, .inl (cI, 400, .inl f_now_cells)), (h_past, .inr (2, [.ref h_past_cells, .int 14])), (h_past_cells, .inl (cI, 5600, .inl f_past_cells))] H → va_D A [(h, .inr (4, [.ref h_now, .ref h_copy, .ref h_past, .ref h_slots, .ref h_saved, .ref h_text, .ref h_shown, .int f_remembered, .int f_oldest])), (h_now, .inr (3, [.ref h_now_cells])), (h_now_cells, .inl (cI, 400, .inl f_now_cells)), (h_past, .inr (2, [.ref h_past_cells, .int 14])), (h_past_cells, .inl (cI, 5600, .inl f_past_cells))] → va_S A s.heap H locs → lv_has ls 2 [(0, .ref h), (1, .int x1)] → W p l e ({ frames := 6, cells := 1, slots := 6, locals := 92 } : Room) s m args below meth c H locs 0 0 (vx_MQ below (va_Qi (fun (r : Int32) (u : (Nat → Int32) × (Nat → Int32) × Int32 × Int32) => K r u) (fun u t => xE D A ((fun (u : (Nat → Int32) × (Nat → Int32) × Int32 × Int32) => [(h, .inr (4, [.ref h_now, .ref h_copy, .ref h_past, .ref h_slots, .ref h_saved, .ref h_text, .ref h_shown, .int u.2.2.1, .int u.2.2.2])), (h_now, .inr (3, [.ref h_now_cells])), (h_now_cells, .inl (cI, 400, .inl u.1)), (h_past, .inr (2, [.ref h_past_cells, .int 14])), (h_past_cells, .inl (cI, 5600, .inl u.2.1))]) u) t) A) (vx_X (fun (_ : (Nat → Int32) × (Nat → Int32) × Int32 × Int32) => True) (fun E u t => ((fun (E : String) (u : (Nat → Int32) × (Nat → Int32) × Int32 × Int32) => KX E u) E u) ∧ xE D A ((fun (u : (Nat → Int32) × (Nat → Int32) × Int32 × Int32) => [(h, .inr (4, [.ref h_now, .ref h_copy, .ref h_past, .ref h_slots, .ref h_saved, .ref h_text, .ref h_shown, .int u.2.2.1, .int u.2.2.2])), (h_now, .inr (3, [.ref h_now_cells])), (h_now_cells, .inl (cI, 400, .inl u.1)), (h_past, .inr (2, [.ref h_past_cells, .int 14])), (h_past_cells, .inl (cI, 5600, .inl u.2.1))]) u) t) A) args s 1 6 A) (F0 m 0 ls []) := by
  obtain ⟨hx, hb, hr, hml, hown, hts, hlocks, hK, hN⟩ := id C0
  intro f_now_cells f_past_cells f_remembered f_oldest x1 hk H locs ls hP hD hS hl
  rw [xp_X4_off] at hk
  refine lv_iload_n hx hb dX4_off_0 rfl (lv_at hl 1 rfl) ?_
  refine lv_bipush (v := (-99 : Int32)) hx hb dX4_off_1 (by decide) ?_
  refine lv_icmp_lt (tgt := 12) hx hb dX4_off_3 (by decide) (fun c1 => ?_) (fun c1 => ?_)
  · have hk := hk.1 c1
    exact xb_X4_off_12 C0 hA T0 hl0 hne  _ _ _ _ hk H locs ls hP hD hS (lv_sub hl [] rfl)
  · have hk := hk.2 c1
    refine lv_iload_n hx hb dX4_off_6 rfl (lv_at hl 1 rfl) ?_
    refine lv_bipush (v := 99) hx hb dX4_off_7 (by decide) ?_
    refine lv_icmp_le (tgt := 22) hx hb dX4_off_9 (by decide) (fun c2 => ?_) (fun c2 => ?_)
    · have hk := hk.1 c2
      refine lv_aload_n hx hb dX4_off_22 rfl (lv_at hl 0 rfl) ?_
      refine x_joinv (ws1 := fun (u3 : (Nat → Int32) × Int32 × Int32) => [(h, .inr (4, [.ref h_now, .ref h_copy, .ref h_past, .ref h_slots, .ref h_saved, .ref h_text, .ref h_shown, .int u3.2.1, .int u3.2.2])), (h_now, .inr (3, [.ref h_now_cells])), (h_now_cells, .inl (cI, 400, .inl f_now_cells)), (h_past, .inr (2, [.ref h_past_cells, .int 14])), (h_past_cells, .inl (cI, 5600, .inl u3.1))]) (x_runV (n0 := 0) (As := []) (rest := []) C0 (xc_X4_remember l D cI cC cZ cL h h_now h_copy h_past h_slots h_saved h_text h_shown h_now_cells h_past_cells H.size f_remembered f_oldest f_now_cells f_past_cells _ hk) gX4_off_X4_remember rfl ⟨rfl, rfl⟩ (by decide +kernel) rfl ⟨by decide, by decide⟩ ⟨Nat.zero_le _, Nat.zero_le _⟩ hP hD [0, 1, 2, 3, 4] rfl rfl (k := 0) rfl rfl rfl hl.1 rfl (Nat.le_of_ble_eq_true rfl) dX4_off_23) hP hD hS hA [0, 1, 2, 3, 4] [] [0, 1, 2, 3, 4] rfl rfl rfl (by decide) (fun _ => rfl) rfl (fun u3 H locs hk hP hD hS => ?_)
      refine lv_aload_n hx hb dX4_off_26 rfl (lv_at hl 0 rfl) ?_
      refine va_get (D := D) (ci := 4) (v := .ref h_now) (C := RX4) (T := TX4) (N := 9) hx hb hts xin_X4_off_X4 hown hK hP 0 rfl rfl 0 (by decide) (hts (.fieldLink RX4 12 "TakeLog" "now" "LTakeLog$State;") (by decide +kernel)) (fun _ h9 => h9) rfl dX4_off_27 ?_
      refine lv_iload_n hx hb dX4_off_30 rfl (lv_at hl 1 rfl) ?_
      refine x_joini (ws1 := fun (u4 : (Nat → Int32)) => [(h, .inr (4, [.ref h_now, .ref h_copy, .ref h_past, .ref h_slots, .ref h_saved, .ref h_text, .ref h_shown, .int u3.2.1, .int u3.2.2])), (h_now, .inr (3, [.ref h_now_cells])), (h_now_cells, .inl (cI, 400, .inl u4)), (h_past, .inr (2, [.ref h_past_cells, .int 14])), (h_past_cells, .inl (cI, 5600, .inl u3.1))]) (x_runV (n0 := 1) (As := [.int x1]) (rest := []) C0 (xc_X3_setOff l D cI cC cZ cL h_now h_now_cells H.size f_now_cells x1 _ hk) gX4_off_X3_setOff rfl ⟨rfl, rfl⟩ (by decide +kernel) rfl ⟨by decide, by decide⟩ ⟨Nat.zero_le _, Nat.zero_le _⟩ hP hD [1, 2] rfl rfl (k := 1) rfl rfl rfl hl.1 rfl (Nat.le_of_ble_eq_true rfl) dX4_off_31) hP hD hS hA [1, 2] [0, 3, 4] [0, 3, 4, 1, 2] rfl rfl rfl (by decide) (fun _ => rfl) rfl (fun r4 u4 H locs hk hP hD hS => ?_)
      exact x_retiX C0 (u4, u3.1, u3.2.1, u3.2.2) hk hP hD hS dX4_off_34
    · have hk := hk.2 c2
      exact xb_X4_off_12 C0 hA T0 hl0 hne  _ _ _ _ hk H locs ls hP hD hS (lv_sub hl [] rfl)
theorem xc_X4_off (l : Launch) (hl0 : l.stackTraces = false) (D : va_G) (cI cC cZ cL : ClassId) (sf : Nat → Nat) (tL tH : Nat) (h h_now h_copy h_past h_slots h_saved h_text h_shown h_now_cells h_past_cells : Nat)  (sz : Nat) (f_remembered : Int32) (f_oldest : Int32) (f_now_cells : Nat → Int32) (f_past_cells : Nat → Int32) (x1 : Int32) (K : Int32 → ((Nat → Int32) × (Nat → Int32) × Int32 × Int32) → Prop) (KX : String → ((Nat → Int32) × (Nat → Int32) × Int32 × Int32) → Prop) (hk : xp_X4_off f_now_cells f_past_cells f_remembered f_oldest x1 K KX) : XMx l yX4_off wsX4_off ({ frames := 6, cells := 1, slots := 6, locals := 92 } : Room) D (xTY cI cC cZ cL) sf tL tH [.ref h, .int x1] [(h, .inr (4, [.ref h_now, .ref h_copy, .ref h_past, .ref h_slots, .ref h_saved, .ref h_text, .ref h_shown, .int f_remembered, .int f_oldest])), (h_now, .inr (3, [.ref h_now_cells])), (h_now_cells, .inl (cI, 400, .inl f_now_cells)), (h_past, .inr (2, [.ref h_past_cells, .int 14])), (h_past_cells, .inl (cI, 5600, .inl f_past_cells))] sz (fun (r : Int32) (u : (Nat → Int32) × (Nat → Int32) × Int32 × Int32) => K r u) (fun (E : String) (u : (Nat → Int32) × (Nat → Int32) × Int32 × Int32) => KX E u) (fun (u : (Nat → Int32) × (Nat → Int32) × Int32 × Int32) => [(h, .inr (4, [.ref h_now, .ref h_copy, .ref h_past, .ref h_slots, .ref h_saved, .ref h_text, .ref h_shown, .int u.2.2.1, .int u.2.2.2])), (h_now, .inr (3, [.ref h_now_cells])), (h_now_cells, .inl (cI, 400, .inl u.1)), (h_past, .inr (2, [.ref h_past_cells, .int 14])), (h_past_cells, .inl (cI, 5600, .inl u.2.1))]) :=
  x_enterX (cc := cX4_off) (maxL := 2) (ret := (some .int)) (own := RX4) (by decide) rfl rfl (Nat.le_of_ble_eq_true rfl) (fun p e s m below meth c ls C0 T0 hne hA hP hD hS hl => xb_X4_off_0 C0 hA T0 hl0 hne _ _ _ _ _ hk s.heap [] ls hP hD hS hl)
set_option maxHeartbeats 4000000 in
set_option maxRecDepth 100000 in
theorem xb_X4_isSetting_0 {p : Program} {l : Launch} {e : Env} {s : State} {m : MethodId} {args : Array Value} {below : List Frame} {meth : Method} {c : Code} {A : Nat → Prop} {D : va_G} {cI cC cZ cL : ClassId} {sf : Nat → Nat} {tL tH : Nat}    {K : Int32 → Prop}  (C0 : xC p s m args meth c cX4_isSetting 2 (some .boolean) wsX4_isSetting RX4 D (xTY cI cC cZ cL)) (hA : ∀ q : Nat, s.heap.size ≤ q → A q) (T0 : xT sf tL tH A s s.heap)  : ∀ (x1 : Int32) (x2 : Int32) , xp_X4_isSetting x1 x2 K → ∀ (H : Heap) (locs : List Loc) (ls : Array Slot), va_P D vwCl [] H → va_D A [] → va_S A s.heap H locs → lv_has ls 2 [(0, .int x1), (1, .int x2)] → W p l e ({ frames := 0, cells := 0, slots := 0, locals := 0 } : Room) s m args below meth c H locs 0 0 (MQ below (va_Qi (fun (r : Int32) (_ : Unit) => K r) (fun u t => xE D A ((fun (_ : Unit) => []) u) t) A) args s 0 0 A) (F0 m 0 ls []) := by
  obtain ⟨hx, hb, hr, hml, hown, hts, hlocks, hK, hN⟩ := id C0
  intro x1 x2 hk H locs ls hP hD hS hl
  rw [xp_X4_isSetting] at hk
  refine lv_iload_n hx hb dX4_isSetting_0 rfl (lv_at hl 0 rfl) ?_
  refine lv_if_lt (tgt := 31) hx hb dX4_isSetting_1 (by decide) (fun c1 => ?_) (fun c1 => ?_)
  · have hk := hk.1 c1
    refine lv_iconst (v := 0) hx hb dX4_isSetting_31 (by decide) ?_
    exact x_retz rfl C0 () hk hP hD hS dX4_isSetting_32
  · have hk := hk.2 c1
    refine lv_iload_n hx hb dX4_isSetting_4 rfl (lv_at hl 0 rfl) ?_
    refine lv_iconst (v := 3) hx hb dX4_isSetting_5 (by decide) ?_
    refine lv_icmp_gt (tgt := 31) hx hb dX4_isSetting_6 (by decide) (fun c2 => ?_) (fun c2 => ?_)
    · have hk := hk.1 c2
      refine lv_iconst (v := 0) hx hb dX4_isSetting_31 (by decide) ?_
      exact x_retz rfl C0 () hk hP hD hS dX4_isSetting_32
    · have hk := hk.2 c2
      refine lv_iload_n hx hb dX4_isSetting_9 rfl (lv_at hl 1 rfl) ?_
      refine va_gets (C := "TakeLog") (n := "LOWEST_SETTING") (d := "[I") hx hb T0.2.2.1 hS hown (hts (.fieldLink RX4 288 "TakeLog" "LOWEST_SETTING" "[I") (by decide +kernel)) (fun _ h9 => h9) dX4_isSetting_10 ?_
      refine lv_iload_n hx hb dX4_isSetting_13 rfl (lv_at hl 0 rfl) ?_
      refine va_ti hx hb T0.2.2.2.2.1 hS hk.1 rfl dX4_isSetting_14 ?_
      have hk := hk.2
      refine lv_icmp_lt (tgt := 31) hx hb dX4_isSetting_15 (by decide) (fun c3 => ?_) (fun c3 => ?_)
      · have hk := hk.1 c3
        refine lv_iconst (v := 0) hx hb dX4_isSetting_31 (by decide) ?_
        exact x_retz rfl C0 () hk hP hD hS dX4_isSetting_32
      · have hk := hk.2 c3
        refine lv_iload_n hx hb dX4_isSetting_18 rfl (lv_at hl 1 rfl) ?_
        refine va_gets (C := "TakeLog") (n := "HIGHEST_SETTING") (d := "[I") hx hb T0.2.2.2.1 hS hown (hts (.fieldLink RX4 292 "TakeLog" "HIGHEST_SETTING" "[I") (by decide +kernel)) (fun _ h9 => h9) dX4_isSetting_19 ?_
        refine lv_iload_n hx hb dX4_isSetting_22 rfl (lv_at hl 0 rfl) ?_
        refine va_ti hx hb T0.2.2.2.2.2.1 hS hk.1 rfl dX4_isSetting_23 ?_
        have hk := hk.2
        refine lv_icmp_gt (tgt := 31) hx hb dX4_isSetting_24 (by decide) (fun c4 => ?_) (fun c4 => ?_)
        · have hk := hk.1 c4
          refine lv_iconst (v := 0) hx hb dX4_isSetting_31 (by decide) ?_
          exact x_retz rfl C0 () hk hP hD hS dX4_isSetting_32
        · have hk := hk.2 c4
          refine lv_iconst (v := 1) hx hb dX4_isSetting_27 (by decide) ?_
          refine lv_goto (tgt := 32) hx hb dX4_isSetting_28 (by decide) ?_
          exact x_retz rfl C0 () hk hP hD hS dX4_isSetting_32
theorem xc_X4_isSetting (l : Launch) (D : va_G) (cI cC cZ cL : ClassId) (sf : Nat → Nat) (tL tH : Nat)   (sz : Nat)  (x1 : Int32) (x2 : Int32) (K : Int32 → Prop) (hk : xp_X4_isSetting x1 x2 K) : XMt l yX4_isSetting wsX4_isSetting ({ frames := 0, cells := 0, slots := 0, locals := 0 } : Room) D (xTY cI cC cZ cL) sf tL tH [.int x1, .int x2] [] sz (fun (r : Int32) (_ : Unit) => K r) (fun (_ : Unit) => []) :=
  x_enterT (cc := cX4_isSetting) (maxL := 2) (ret := (some .boolean)) (own := RX4) (by decide) rfl rfl (Nat.le_of_ble_eq_true rfl) (fun p e s m below meth c ls C0 T0 hA hP hD hS hl => xb_X4_isSetting_0 C0 hA T0 _ _ hk s.heap [] ls hP hD hS hl)
set_option maxRecDepth 20000 in
theorem xw_X4_set_IA : ∀ w ∈ (vx_atS RX4 53 xIA xNm).filter goodWord, w ∈ wsX4_set := by decide +kernel
set_option maxRecDepth 20000 in
theorem xin_X4_set_X2 : ∀ w ∈ u_ws RX2 TX2 2, w ∈ wsX4_set := by decide +kernel
set_option maxRecDepth 20000 in
theorem xin_X4_set_X3 : ∀ w ∈ u_ws RX3 TX3 1, w ∈ wsX4_set := by decide +kernel
set_option maxRecDepth 20000 in
theorem xin_X4_set_X4 : ∀ w ∈ u_ws RX4 TX4 9, w ∈ wsX4_set := by decide +kernel
set_option maxHeartbeats 4000000 in
set_option maxRecDepth 100000 in
theorem xb_X4_set_0 {p : Program} {l : Launch} {e : Env} {s : State} {m : MethodId} {args : Array Value} {below : List Frame} {meth : Method} {c : Code} {A : Nat → Prop} {D : va_G} {cI cC cZ cL : ClassId} {sf : Nat → Nat} {tL tH : Nat} {h h_now h_copy h_past h_slots h_saved h_text h_shown h_now_cells h_past_cells : Nat}   {K : Int32 → ((Nat → Int32) × (Nat → Int32) × Int32 × Int32) → Prop} {KX : String → ((Nat → Int32) × (Nat → Int32) × Int32 × Int32) → Prop}  (C0 : xC p s m args meth c cX4_set 3 (some .int) wsX4_set RX4 D (xTY cI cC cZ cL)) (hA : ∀ q : Nat, s.heap.size ≤ q → A q) (T0 : xT sf tL tH A s s.heap) (hl0 : l.stackTraces = false) (hne : ∀ x ∈ c.exceptionTable.toList, False)  : ∀ (f_now_cells : Nat → Int32) (f_past_cells : Nat → Int32) (f_remembered : Int32) (f_oldest : Int32) (x1 : Int32) (x2 : Int32) , xp_X4_set f_now_cells f_past_cells f_remembered f_oldest x1 x2 K KX → ∀ (H : Heap) (locs : List Loc) (ls : Array Slot), va_P D vwCl [(h, .inr (4, [.ref h_now, .ref h_copy, .ref h_past, .ref h_slots, .ref h_saved, .ref h_text, .ref h_shown, .int f_remembered, .int f_oldest])), (h_now, .inr (3, [.ref h_now_cells])), (h_now_cells, .inl (cI, 400, .inl f_now_cells)), (h_past, .inr (2, [.ref h_past_cells, .int 14])), (h_past_cells, .inl (cI, 5600, .inl f_past_cells))] H → va_D A [(h, .inr (4, [.ref h_now, .ref h_copy, .ref h_past, .ref h_slots, .ref h_saved, .ref h_text, .ref h_shown, .int f_remembered, .int f_oldest])), (h_now, .inr (3, [.ref h_now_cells])), (h_now_cells, .inl (cI, 400, .inl f_now_cells)), (h_past, .inr (2, [.ref h_past_cells, .int 14])), (h_past_cells, .inl (cI, 5600, .inl f_past_cells))] → va_S A s.heap H locs → lv_has ls 3 [(0, .ref h), (1, .int x1), (2, .int x2)] → W p l e ({ frames := 6, cells := 1, slots := 6, locals := 92 } : Room) s m args below meth c H locs 0 0 (vx_MQ below (va_Qi (fun (r : Int32) (u : (Nat → Int32) × (Nat → Int32) × Int32 × Int32) => K r u) (fun u t => xE D A ((fun (u : (Nat → Int32) × (Nat → Int32) × Int32 × Int32) => [(h, .inr (4, [.ref h_now, .ref h_copy, .ref h_past, .ref h_slots, .ref h_saved, .ref h_text, .ref h_shown, .int u.2.2.1, .int u.2.2.2])), (h_now, .inr (3, [.ref h_now_cells])), (h_now_cells, .inl (cI, 400, .inl u.1)), (h_past, .inr (2, [.ref h_past_cells, .int 14])), (h_past_cells, .inl (cI, 5600, .inl u.2.1))]) u) t) A) (vx_X (fun (_ : (Nat → Int32) × (Nat → Int32) × Int32 × Int32) => True) (fun E u t => ((fun (E : String) (u : (Nat → Int32) × (Nat → Int32) × Int32 × Int32) => KX E u) E u) ∧ xE D A ((fun (u : (Nat → Int32) × (Nat → Int32) × Int32 × Int32) => [(h, .inr (4, [.ref h_now, .ref h_copy, .ref h_past, .ref h_slots, .ref h_saved, .ref h_text, .ref h_shown, .int u.2.2.1, .int u.2.2.2])), (h_now, .inr (3, [.ref h_now_cells])), (h_now_cells, .inl (cI, 400, .inl u.1)), (h_past, .inr (2, [.ref h_past_cells, .int 14])), (h_past_cells, .inl (cI, 5600, .inl u.2.1))]) u) t) A) args s 1 6 A) (F0 m 0 ls []) := by
  obtain ⟨hx, hb, hr, hml, hown, hts, hlocks, hK, hN⟩ := id C0
  intro f_now_cells f_past_cells f_remembered f_oldest x1 x2 hk H locs ls hP hD hS hl
  rw [xp_X4_set] at hk
  refine lv_iload_n hx hb dX4_set_0 rfl (lv_at hl 1 rfl) ?_
  refine lv_iload_n hx hb dX4_set_1 rfl (lv_at hl 2 rfl) ?_
  refine x_joini (ws1 := fun (_ : Unit) => [(h, .inr (4, [.ref h_now, .ref h_copy, .ref h_past, .ref h_slots, .ref h_saved, .ref h_text, .ref h_shown, .int f_remembered, .int f_oldest])), (h_now, .inr (3, [.ref h_now_cells])), (h_now_cells, .inl (cI, 400, .inl f_now_cells)), (h_past, .inr (2, [.ref h_past_cells, .int 14])), (h_past_cells, .inl (cI, 5600, .inl f_past_cells))]) (x_runST (n0 := 2) (As := [.int x1, .int x2]) (rest := []) C0 T0 (xc_X4_isSetting l D cI cC cZ cL sf tL tH  H.size x1 x2 _ hk) gX4_set_X4_isSetting rfl ⟨rfl, rfl⟩ (by decide +kernel) rfl ⟨by decide, by decide⟩ ⟨Nat.zero_le _, Nat.zero_le _⟩ hA hP hD hS [] rfl rfl hl.1 rfl (Nat.le_of_ble_eq_true rfl) dX4_set_2) hP hD hS hA [] [0, 1, 2, 3, 4] [0, 1, 2, 3, 4] rfl rfl rfl (by decide) (fun _ => rfl) rfl (fun r1 u1 H locs hk hP hD hS => ?_)
  refine lv_if_ne (tgt := 18) hx hb dX4_set_5 (by decide) (fun c2 => ?_) (fun c2 => ?_)
  · have hk := hk.1 c2
    refine lv_aload_n hx hb dX4_set_18 rfl (lv_at hl 0 rfl) ?_
    refine x_joinv (ws1 := fun (u3 : (Nat → Int32) × Int32 × Int32) => [(h, .inr (4, [.ref h_now, .ref h_copy, .ref h_past, .ref h_slots, .ref h_saved, .ref h_text, .ref h_shown, .int u3.2.1, .int u3.2.2])), (h_now, .inr (3, [.ref h_now_cells])), (h_now_cells, .inl (cI, 400, .inl f_now_cells)), (h_past, .inr (2, [.ref h_past_cells, .int 14])), (h_past_cells, .inl (cI, 5600, .inl u3.1))]) (x_runV (n0 := 0) (As := []) (rest := []) C0 (xc_X4_remember l D cI cC cZ cL h h_now h_copy h_past h_slots h_saved h_text h_shown h_now_cells h_past_cells H.size f_remembered f_oldest f_now_cells f_past_cells _ hk) gX4_set_X4_remember rfl ⟨rfl, rfl⟩ (by decide +kernel) rfl ⟨by decide, by decide⟩ ⟨Nat.zero_le _, Nat.zero_le _⟩ hP hD [0, 1, 2, 3, 4] rfl rfl (k := 0) rfl rfl rfl hl.1 rfl (Nat.le_of_ble_eq_true rfl) dX4_set_19) hP hD hS hA [0, 1, 2, 3, 4] [] [0, 1, 2, 3, 4] rfl rfl rfl (by decide) (fun _ => rfl) rfl (fun u3 H locs hk hP hD hS => ?_)
    refine lv_aload_n hx hb dX4_set_22 rfl (lv_at hl 0 rfl) ?_
    refine va_get (D := D) (ci := 4) (v := .ref h_now) (C := RX4) (T := TX4) (N := 9) hx hb hts xin_X4_set_X4 hown hK hP 0 rfl rfl 0 (by decide) (hts (.fieldLink RX4 12 "TakeLog" "now" "LTakeLog$State;") (by decide +kernel)) (fun _ h9 => h9) rfl dX4_set_23 ?_
    refine lv_iload_n hx hb dX4_set_26 rfl (lv_at hl 1 rfl) ?_
    refine lv_iload_n hx hb dX4_set_27 rfl (lv_at hl 2 rfl) ?_
    refine x_joini (ws1 := fun (u4 : (Nat → Int32)) => [(h, .inr (4, [.ref h_now, .ref h_copy, .ref h_past, .ref h_slots, .ref h_saved, .ref h_text, .ref h_shown, .int u3.2.1, .int u3.2.2])), (h_now, .inr (3, [.ref h_now_cells])), (h_now_cells, .inl (cI, 400, .inl u4)), (h_past, .inr (2, [.ref h_past_cells, .int 14])), (h_past_cells, .inl (cI, 5600, .inl u3.1))]) (x_runV (n0 := 2) (As := [.int x1, .int x2]) (rest := []) C0 (xc_X3_choose l D cI cC cZ cL h_now h_now_cells H.size f_now_cells x1 x2 _ hk) gX4_set_X3_choose rfl ⟨rfl, rfl⟩ (by decide +kernel) rfl ⟨by decide, by decide⟩ ⟨Nat.zero_le _, Nat.zero_le _⟩ hP hD [1, 2] rfl rfl (k := 1) rfl rfl rfl hl.1 rfl (Nat.le_of_ble_eq_true rfl) dX4_set_28) hP hD hS hA [1, 2] [0, 3, 4] [0, 3, 4, 1, 2] rfl rfl rfl (by decide) (fun _ => rfl) rfl (fun r4 u4 H locs hk hP hD hS => ?_)
    exact x_retiX C0 (u4, u3.1, u3.2.1, u3.2.2) hk hP hD hS dX4_set_31
  · have hk := hk.2 c2
    exact x_thr (text := "there is no such setting or value") C0 T0 hl0 hne (f_now_cells, f_past_cells, f_remembered, f_oldest) hk hP hD hS hl.1 (by decide +kernel) (by decide +kernel) (by decide +kernel) xw_X4_set_IA x_ngIA x_otIA (by decide +kernel) (by decide) (Nat.le_of_ble_eq_true rfl) (by decide) (by decide) dX4_set_8 dX4_set_11 dX4_set_12 dX4_set_14 dX4_set_17
theorem xc_X4_set (l : Launch) (hl0 : l.stackTraces = false) (D : va_G) (cI cC cZ cL : ClassId) (sf : Nat → Nat) (tL tH : Nat) (h h_now h_copy h_past h_slots h_saved h_text h_shown h_now_cells h_past_cells : Nat)  (sz : Nat) (f_remembered : Int32) (f_oldest : Int32) (f_now_cells : Nat → Int32) (f_past_cells : Nat → Int32) (x1 : Int32) (x2 : Int32) (K : Int32 → ((Nat → Int32) × (Nat → Int32) × Int32 × Int32) → Prop) (KX : String → ((Nat → Int32) × (Nat → Int32) × Int32 × Int32) → Prop) (hk : xp_X4_set f_now_cells f_past_cells f_remembered f_oldest x1 x2 K KX) : XMx l yX4_set wsX4_set ({ frames := 6, cells := 1, slots := 6, locals := 92 } : Room) D (xTY cI cC cZ cL) sf tL tH [.ref h, .int x1, .int x2] [(h, .inr (4, [.ref h_now, .ref h_copy, .ref h_past, .ref h_slots, .ref h_saved, .ref h_text, .ref h_shown, .int f_remembered, .int f_oldest])), (h_now, .inr (3, [.ref h_now_cells])), (h_now_cells, .inl (cI, 400, .inl f_now_cells)), (h_past, .inr (2, [.ref h_past_cells, .int 14])), (h_past_cells, .inl (cI, 5600, .inl f_past_cells))] sz (fun (r : Int32) (u : (Nat → Int32) × (Nat → Int32) × Int32 × Int32) => K r u) (fun (E : String) (u : (Nat → Int32) × (Nat → Int32) × Int32 × Int32) => KX E u) (fun (u : (Nat → Int32) × (Nat → Int32) × Int32 × Int32) => [(h, .inr (4, [.ref h_now, .ref h_copy, .ref h_past, .ref h_slots, .ref h_saved, .ref h_text, .ref h_shown, .int u.2.2.1, .int u.2.2.2])), (h_now, .inr (3, [.ref h_now_cells])), (h_now_cells, .inl (cI, 400, .inl u.1)), (h_past, .inr (2, [.ref h_past_cells, .int 14])), (h_past_cells, .inl (cI, 5600, .inl u.2.1))]) :=
  x_enterX (cc := cX4_set) (maxL := 3) (ret := (some .int)) (own := RX4) (by decide) rfl rfl (Nat.le_of_ble_eq_true rfl) (fun p e s m below meth c ls C0 T0 hne hA hP hD hS hl => xb_X4_set_0 C0 hA T0 hl0 hne _ _ _ _ _ _ hk s.heap [] ls hP hD hS hl)
set_option maxRecDepth 20000 in
theorem xw_X4_undo_IS : ∀ w ∈ (vx_atS RX4 64 xIS xNm).filter goodWord, w ∈ wsX4_undo := by decide +kernel
set_option maxRecDepth 20000 in
theorem xin_X4_undo_X2 : ∀ w ∈ u_ws RX2 TX2 2, w ∈ wsX4_undo := by decide +kernel
set_option maxRecDepth 20000 in
theorem xin_X4_undo_X3 : ∀ w ∈ u_ws RX3 TX3 1, w ∈ wsX4_undo := by decide +kernel
set_option maxRecDepth 20000 in
theorem xin_X4_undo_X4 : ∀ w ∈ u_ws RX4 TX4 9, w ∈ wsX4_undo := by decide +kernel
set_option maxHeartbeats 4000000 in
set_option maxRecDepth 100000 in
theorem xb_X4_undo_0 {p : Program} {l : Launch} {e : Env} {s : State} {m : MethodId} {args : Array Value} {below : List Frame} {meth : Method} {c : Code} {A : Nat → Prop} {D : va_G} {cI cC cZ cL : ClassId} {sf : Nat → Nat} {tL tH : Nat} {h h_now h_copy h_past h_slots h_saved h_text h_shown h_now_cells h_past_cells : Nat}  {f_oldest : Int32} {f_past_cells : Nat → Int32} {K : Int32 → ((Nat → Int32) × Int32) → Prop} {KX : String → ((Nat → Int32) × Int32) → Prop}  (C0 : xC p s m args meth c cX4_undo 1 (some .int) wsX4_undo RX4 D (xTY cI cC cZ cL)) (hA : ∀ q : Nat, s.heap.size ≤ q → A q) (T0 : xT sf tL tH A s s.heap) (hl0 : l.stackTraces = false) (hne : ∀ x ∈ c.exceptionTable.toList, False)  : ∀ (f_now_cells : Nat → Int32) (f_remembered : Int32) , xp_X4_undo f_past_cells f_oldest f_now_cells f_remembered K KX → ∀ (H : Heap) (locs : List Loc) (ls : Array Slot), va_P D vwCl [(h, .inr (4, [.ref h_now, .ref h_copy, .ref h_past, .ref h_slots, .ref h_saved, .ref h_text, .ref h_shown, .int f_remembered, .int f_oldest])), (h_now, .inr (3, [.ref h_now_cells])), (h_now_cells, .inl (cI, 400, .inl f_now_cells)), (h_past, .inr (2, [.ref h_past_cells, .int 14])), (h_past_cells, .inl (cI, 5600, .inl f_past_cells))] H → va_D A [(h, .inr (4, [.ref h_now, .ref h_copy, .ref h_past, .ref h_slots, .ref h_saved, .ref h_text, .ref h_shown, .int f_remembered, .int f_oldest])), (h_now, .inr (3, [.ref h_now_cells])), (h_now_cells, .inl (cI, 400, .inl f_now_cells)), (h_past, .inr (2, [.ref h_past_cells, .int 14])), (h_past_cells, .inl (cI, 5600, .inl f_past_cells))] → va_S A s.heap H locs → lv_has ls 1 [(0, .ref h)] → W p l e ({ frames := 6, cells := 1, slots := 6, locals := 92 } : Room) s m args below meth c H locs 0 0 (vx_MQ below (va_Qi (fun (r : Int32) (u : (Nat → Int32) × Int32) => K r u) (fun u t => xE D A ((fun (u : (Nat → Int32) × Int32) => [(h, .inr (4, [.ref h_now, .ref h_copy, .ref h_past, .ref h_slots, .ref h_saved, .ref h_text, .ref h_shown, .int u.2, .int f_oldest])), (h_now, .inr (3, [.ref h_now_cells])), (h_now_cells, .inl (cI, 400, .inl u.1)), (h_past, .inr (2, [.ref h_past_cells, .int 14])), (h_past_cells, .inl (cI, 5600, .inl f_past_cells))]) u) t) A) (vx_X (fun (_ : (Nat → Int32) × Int32) => True) (fun E u t => ((fun (E : String) (u : (Nat → Int32) × Int32) => KX E u) E u) ∧ xE D A ((fun (u : (Nat → Int32) × Int32) => [(h, .inr (4, [.ref h_now, .ref h_copy, .ref h_past, .ref h_slots, .ref h_saved, .ref h_text, .ref h_shown, .int u.2, .int f_oldest])), (h_now, .inr (3, [.ref h_now_cells])), (h_now_cells, .inl (cI, 400, .inl u.1)), (h_past, .inr (2, [.ref h_past_cells, .int 14])), (h_past_cells, .inl (cI, 5600, .inl f_past_cells))]) u) t) A) args s 1 6 A) (F0 m 0 ls []) := by
  obtain ⟨hx, hb, hr, hml, hown, hts, hlocks, hK, hN⟩ := id C0
  intro f_now_cells f_remembered hk H locs ls hP hD hS hl
  rw [xp_X4_undo] at hk
  refine lv_aload_n hx hb dX4_undo_0 rfl (lv_at hl 0 rfl) ?_
  refine va_get (D := D) (ci := 4) (v := .int f_remembered) (C := RX4) (T := TX4) (N := 9) hx hb hts xin_X4_undo_X4 hown hK hP 0 rfl rfl 7 (by decide) (hts (.fieldLink RX4 192 "TakeLog" "remembered" "I") (by decide +kernel)) (fun _ h9 => h9) rfl dX4_undo_1 ?_
  refine lv_if_ne (tgt := 17) hx hb dX4_undo_4 (by decide) (fun c1 => ?_) (fun c1 => ?_)
  · have hk := hk.1 c1
    refine lv_aload_n hx hb dX4_undo_17 rfl (lv_at hl 0 rfl) ?_
    refine lv_dup hx hb dX4_undo_18 rfl ?_
    refine va_get (D := D) (ci := 4) (v := .int f_remembered) (C := RX4) (T := TX4) (N := 9) hx hb hts xin_X4_undo_X4 hown hK hP 0 rfl rfl 7 (by decide) (hts (.fieldLink RX4 192 "TakeLog" "remembered" "I") (by decide +kernel)) (fun _ h9 => h9) rfl dX4_undo_19 ?_
    refine lv_iconst (v := 1) hx hb dX4_undo_22 (by decide) ?_
    refine lv_isub hx hb dX4_undo_23 ?_
    refine va_put (D := D) (ci := 4) (v := .int (f_remembered - 1)) (ty := .int) (C := RX4) (T := TX4) (N := 9) hx hb hts xin_X4_undo_X4 tyX4 tyX4_ok nmX4 hown hK hP hD hS 0 rfl rfl 7 (by decide) (hts (.fieldLink RX4 192 "TakeLog" "remembered" "I") (by decide +kernel)) (fun _ h9 => h9) rfl (by decide +kernel) rfl rfl (Nat.le_of_ble_eq_true rfl) dX4_undo_24 (fun H locs hP hD hS => ?_)
    have hP : va_P D vwCl [(h, .inr (4, [.ref h_now, .ref h_copy, .ref h_past, .ref h_slots, .ref h_saved, .ref h_text, .ref h_shown, .int (f_remembered - 1), .int f_oldest])), (h_now, .inr (3, [.ref h_now_cells])), (h_now_cells, .inl (cI, 400, .inl f_now_cells)), (h_past, .inr (2, [.ref h_past_cells, .int 14])), (h_past_cells, .inl (cI, 5600, .inl f_past_cells))] H := hP
    have hD : va_D A [(h, .inr (4, [.ref h_now, .ref h_copy, .ref h_past, .ref h_slots, .ref h_saved, .ref h_text, .ref h_shown, .int (f_remembered - 1), .int f_oldest])), (h_now, .inr (3, [.ref h_now_cells])), (h_now_cells, .inl (cI, 400, .inl f_now_cells)), (h_past, .inr (2, [.ref h_past_cells, .int 14])), (h_past_cells, .inl (cI, 5600, .inl f_past_cells))] := hD
    refine lv_aload_n hx hb dX4_undo_27 rfl (lv_at hl 0 rfl) ?_
    refine va_get (D := D) (ci := 4) (v := .ref h_past) (C := RX4) (T := TX4) (N := 9) hx hb hts xin_X4_undo_X4 hown hK hP 0 rfl rfl 2 (by decide) (hts (.fieldLink RX4 24 "TakeLog" "past" "LTakeLog$Shelf;") (by decide +kernel)) (fun _ h9 => h9) rfl dX4_undo_28 ?_
    refine lv_aload_n hx hb dX4_undo_31 rfl (lv_at hl 0 rfl) ?_
    refine va_get (D := D) (ci := 4) (v := .int f_oldest) (C := RX4) (T := TX4) (N := 9) hx hb hts xin_X4_undo_X4 hown hK hP 0 rfl rfl 8 (by decide) (hts (.fieldLink RX4 198 "TakeLog" "oldest" "I") (by decide +kernel)) (fun _ h9 => h9) rfl dX4_undo_32 ?_
    refine lv_aload_n hx hb dX4_undo_35 rfl (lv_at hl 0 rfl) ?_
    refine va_get (D := D) (ci := 4) (v := .int (f_remembered - 1)) (C := RX4) (T := TX4) (N := 9) hx hb hts xin_X4_undo_X4 hown hK hP 0 rfl rfl 7 (by decide) (hts (.fieldLink RX4 192 "TakeLog" "remembered" "I") (by decide +kernel)) (fun _ h9 => h9) rfl dX4_undo_36 ?_
    refine lv_iadd hx hb dX4_undo_39 ?_
    refine lv_bipush (v := 14) hx hb dX4_undo_40 (by decide) ?_
    refine lv_irem hx hb dX4_undo_42 (by decide) ?_
    refine lv_aload_n hx hb dX4_undo_43 rfl (lv_at hl 0 rfl) ?_
    refine va_get (D := D) (ci := 4) (v := .ref h_now) (C := RX4) (T := TX4) (N := 9) hx hb hts xin_X4_undo_X4 hown hK hP 0 rfl rfl 0 (by decide) (hts (.fieldLink RX4 12 "TakeLog" "now" "LTakeLog$State;") (by decide +kernel)) (fun _ h9 => h9) rfl dX4_undo_44 ?_
    refine x_joinv (ws1 := fun (u2 : (Nat → Int32)) => [(h, .inr (4, [.ref h_now, .ref h_copy, .ref h_past, .ref h_slots, .ref h_saved, .ref h_text, .ref h_shown, .int (f_remembered - 1), .int f_oldest])), (h_now, .inr (3, [.ref h_now_cells])), (h_now_cells, .inl (cI, 400, .inl u2)), (h_past, .inr (2, [.ref h_past_cells, .int 14])), (h_past_cells, .inl (cI, 5600, .inl f_past_cells))]) (x_runV (n0 := 2) (As := [.int ((f_oldest + (f_remembered - 1)) - (f_oldest + (f_remembered - 1)) / 14 * 14), .ref h_now]) (rest := []) C0 (xc_X2_fetch l D cI cC cZ cL h_past h_past_cells h_now h_now_cells 5600 H.size 14 f_past_cells f_now_cells ((f_oldest + (f_remembered - 1)) - (f_oldest + (f_remembered - 1)) / 14 * 14) _ hk) gX4_undo_X2_fetch rfl ⟨rfl, rfl⟩ (by decide +kernel) rfl ⟨by decide, by decide⟩ ⟨Nat.zero_le _, Nat.zero_le _⟩ hP hD [3, 4, 1, 2] rfl rfl (k := 3) rfl rfl rfl hl.1 rfl (Nat.le_of_ble_eq_true rfl) dX4_undo_47) hP hD hS hA [3, 4, 1, 2] [0] [0, 3, 4, 1, 2] rfl rfl rfl (by decide) (fun _ => rfl) rfl (fun u2 H locs hk hP hD hS => ?_)
    refine lv_aload_n hx hb dX4_undo_50 rfl (lv_at hl 0 rfl) ?_
    refine va_get (D := D) (ci := 4) (v := .int (f_remembered - 1)) (C := RX4) (T := TX4) (N := 9) hx hb hts xin_X4_undo_X4 hown hK hP 0 rfl rfl 7 (by decide) (hts (.fieldLink RX4 192 "TakeLog" "remembered" "I") (by decide +kernel)) (fun _ h9 => h9) rfl dX4_undo_51 ?_
    exact x_retiX C0 (u2, f_remembered - 1) hk hP hD hS dX4_undo_54
  · have hk := hk.2 c1
    exact x_thr (text := "no state is remembered") C0 T0 hl0 hne (f_now_cells, f_remembered) hk hP hD hS hl.1 (by decide +kernel) (by decide +kernel) (by decide +kernel) xw_X4_undo_IS x_ngIS x_otIS (by decide +kernel) (by decide) (Nat.le_of_ble_eq_true rfl) (by decide) (by decide) dX4_undo_7 dX4_undo_10 dX4_undo_11 dX4_undo_13 dX4_undo_16
theorem xc_X4_undo (l : Launch) (hl0 : l.stackTraces = false) (D : va_G) (cI cC cZ cL : ClassId) (sf : Nat → Nat) (tL tH : Nat) (h h_now h_copy h_past h_slots h_saved h_text h_shown h_now_cells h_past_cells : Nat)  (sz : Nat) (f_remembered : Int32) (f_oldest : Int32) (f_now_cells : Nat → Int32) (f_past_cells : Nat → Int32)  (K : Int32 → ((Nat → Int32) × Int32) → Prop) (KX : String → ((Nat → Int32) × Int32) → Prop) (hk : xp_X4_undo f_past_cells f_oldest f_now_cells f_remembered K KX) : XMx l yX4_undo wsX4_undo ({ frames := 6, cells := 1, slots := 6, locals := 92 } : Room) D (xTY cI cC cZ cL) sf tL tH [.ref h] [(h, .inr (4, [.ref h_now, .ref h_copy, .ref h_past, .ref h_slots, .ref h_saved, .ref h_text, .ref h_shown, .int f_remembered, .int f_oldest])), (h_now, .inr (3, [.ref h_now_cells])), (h_now_cells, .inl (cI, 400, .inl f_now_cells)), (h_past, .inr (2, [.ref h_past_cells, .int 14])), (h_past_cells, .inl (cI, 5600, .inl f_past_cells))] sz (fun (r : Int32) (u : (Nat → Int32) × Int32) => K r u) (fun (E : String) (u : (Nat → Int32) × Int32) => KX E u) (fun (u : (Nat → Int32) × Int32) => [(h, .inr (4, [.ref h_now, .ref h_copy, .ref h_past, .ref h_slots, .ref h_saved, .ref h_text, .ref h_shown, .int u.2, .int f_oldest])), (h_now, .inr (3, [.ref h_now_cells])), (h_now_cells, .inl (cI, 400, .inl u.1)), (h_past, .inr (2, [.ref h_past_cells, .int 14])), (h_past_cells, .inl (cI, 5600, .inl f_past_cells))]) :=
  x_enterX (cc := cX4_undo) (maxL := 1) (ret := (some .int)) (own := RX4) (by decide) rfl rfl (Nat.le_of_ble_eq_true rfl) (fun p e s m below meth c ls C0 T0 hne hA hP hD hS hl => xb_X4_undo_0 C0 hA T0 hl0 hne _ _ hk s.heap [] ls hP hD hS hl)
set_option maxRecDepth 20000 in
theorem xw_X4_synced_IO : ∀ w ∈ (vx_atS RX4 101 xIO xNm).filter goodWord, w ∈ wsX4_synced := by decide +kernel
set_option maxRecDepth 20000 in
theorem xin_X4_synced_X3 : ∀ w ∈ u_ws RX3 TX3 1, w ∈ wsX4_synced := by decide +kernel
set_option maxRecDepth 20000 in
theorem xin_X4_synced_X4 : ∀ w ∈ u_ws RX4 TX4 9, w ∈ wsX4_synced := by decide +kernel
set_option maxHeartbeats 4000000 in
set_option maxRecDepth 100000 in
theorem xb_X4_synced_0 {p : Program} {l : Launch} {e : Env} {s : State} {m : MethodId} {args : Array Value} {below : List Frame} {meth : Method} {c : Code} {A : Nat → Prop} {D : va_G} {cI cC cZ cL : ClassId} {sf : Nat → Nat} {tL tH : Nat} {h h_now h_copy h_past h_slots h_saved h_text h_shown h_now_cells : Nat}  {f_remembered : Int32} {f_oldest : Int32} {f_now_cells : Nat → Int32} {K : Int32 → Prop} {KX : String → Prop}  (C0 : xC p s m args meth c cX4_synced 2 (some .int) wsX4_synced RX4 D (xTY cI cC cZ cL)) (hA : ∀ q : Nat, s.heap.size ≤ q → A q) (T0 : xT sf tL tH A s s.heap) (hl0 : l.stackTraces = false) (hne : ∀ x ∈ c.exceptionTable.toList, False)  : ∀ (x1 : Int32) , xp_X4_synced f_now_cells x1 K KX → ∀ (H : Heap) (locs : List Loc) (ls : Array Slot), va_P D vwCl [(h, .inr (4, [.ref h_now, .ref h_copy, .ref h_past, .ref h_slots, .ref h_saved, .ref h_text, .ref h_shown, .int f_remembered, .int f_oldest])), (h_now, .inr (3, [.ref h_now_cells])), (h_now_cells, .inl (cI, 400, .inl f_now_cells))] H → va_D A [(h, .inr (4, [.ref h_now, .ref h_copy, .ref h_past, .ref h_slots, .ref h_saved, .ref h_text, .ref h_shown, .int f_remembered, .int f_oldest])), (h_now, .inr (3, [.ref h_now_cells])), (h_now_cells, .inl (cI, 400, .inl f_now_cells))] → va_S A s.heap H locs → lv_has ls 2 [(0, .ref h), (1, .int x1)] → W p l e ({ frames := 6, cells := 1, slots := 6, locals := 92 } : Room) s m args below meth c H locs 0 0 (vx_MQ below (va_Qi (fun (r : Int32) (_ : Unit) => K r) (fun u t => xE D A ((fun (_ : Unit) => [(h, .inr (4, [.ref h_now, .ref h_copy, .ref h_past, .ref h_slots, .ref h_saved, .ref h_text, .ref h_shown, .int f_remembered, .int f_oldest])), (h_now, .inr (3, [.ref h_now_cells])), (h_now_cells, .inl (cI, 400, .inl f_now_cells))]) u) t) A) (vx_X (fun (_ : Unit) => True) (fun E u t => ((fun (E : String) (_ : Unit) => KX E) E u) ∧ xE D A ((fun (_ : Unit) => [(h, .inr (4, [.ref h_now, .ref h_copy, .ref h_past, .ref h_slots, .ref h_saved, .ref h_text, .ref h_shown, .int f_remembered, .int f_oldest])), (h_now, .inr (3, [.ref h_now_cells])), (h_now_cells, .inl (cI, 400, .inl f_now_cells))]) u) t) A) args s 1 6 A) (F0 m 0 ls []) := by
  obtain ⟨hx, hb, hr, hml, hown, hts, hlocks, hK, hN⟩ := id C0
  intro x1 hk H locs ls hP hD hS hl
  rw [xp_X4_synced] at hk
  refine lv_aload_n hx hb dX4_synced_0 rfl (lv_at hl 0 rfl) ?_
  refine va_get (D := D) (ci := 4) (v := .ref h_now) (C := RX4) (T := TX4) (N := 9) hx hb hts xin_X4_synced_X4 hown hK hP 0 rfl rfl 0 (by decide) (hts (.fieldLink RX4 12 "TakeLog" "now" "LTakeLog$State;") (by decide +kernel)) (fun _ h9 => h9) rfl dX4_synced_1 ?_
  refine lv_iload_n hx hb dX4_synced_4 rfl (lv_at hl 1 rfl) ?_
  refine x_joini (ws1 := fun (_ : Unit) => [(h, .inr (4, [.ref h_now, .ref h_copy, .ref h_past, .ref h_slots, .ref h_saved, .ref h_text, .ref h_shown, .int f_remembered, .int f_oldest])), (h_now, .inr (3, [.ref h_now_cells])), (h_now_cells, .inl (cI, 400, .inl f_now_cells))]) (x_runV (n0 := 1) (As := [.int x1]) (rest := []) C0 (xc_X3_hasTake l D cI cC cZ cL h_now h_now_cells H.size f_now_cells x1 _ hk) gX4_synced_X3_hasTake rfl ⟨rfl, rfl⟩ (by decide +kernel) rfl ⟨by decide, by decide⟩ ⟨Nat.zero_le _, Nat.zero_le _⟩ hP hD [1, 2] rfl rfl (k := 1) rfl rfl rfl hl.1 rfl (Nat.le_of_ble_eq_true rfl) dX4_synced_5) hP hD hS hA [1, 2] [0] [0, 1, 2] rfl rfl rfl (by decide) (fun _ => rfl) rfl (fun r1 u1 H locs hk hP hD hS => ?_)
  refine lv_if_ne (tgt := 21) hx hb dX4_synced_8 (by decide) (fun c2 => ?_) (fun c2 => ?_)
  · have hk := hk.1 c2
    refine lv_aload_n hx hb dX4_synced_21 rfl (lv_at hl 0 rfl) ?_
    refine va_get (D := D) (ci := 4) (v := .ref h_now) (C := RX4) (T := TX4) (N := 9) hx hb hts xin_X4_synced_X4 hown hK hP 0 rfl rfl 0 (by decide) (hts (.fieldLink RX4 12 "TakeLog" "now" "LTakeLog$State;") (by decide +kernel)) (fun _ h9 => h9) rfl dX4_synced_22 ?_
    refine lv_iload_n hx hb dX4_synced_25 rfl (lv_at hl 1 rfl) ?_
    refine lv_iconst (v := 0) hx hb dX4_synced_26 (by decide) ?_
    refine x_joini (ws1 := fun (_ : Unit) => [(h, .inr (4, [.ref h_now, .ref h_copy, .ref h_past, .ref h_slots, .ref h_saved, .ref h_text, .ref h_shown, .int f_remembered, .int f_oldest])), (h_now, .inr (3, [.ref h_now_cells])), (h_now_cells, .inl (cI, 400, .inl f_now_cells))]) (x_runV (n0 := 2) (As := [.int x1, .int 0]) (rest := []) C0 (xc_X3_soundFor l D cI cC cZ cL h_now h_now_cells H.size f_now_cells x1 0 _ hk) gX4_synced_X3_soundFor rfl ⟨rfl, rfl⟩ (by decide +kernel) rfl ⟨by decide, by decide⟩ ⟨Nat.zero_le _, Nat.zero_le _⟩ hP hD [1, 2] rfl rfl (k := 1) rfl rfl rfl hl.1 rfl (Nat.le_of_ble_eq_true rfl) dX4_synced_27) hP hD hS hA [1, 2] [0] [0, 1, 2] rfl rfl rfl (by decide) (fun _ => rfl) rfl (fun r3 u3 H locs hk hP hD hS => ?_)
    exact x_retiX C0 () hk hP hD hS dX4_synced_30
  · have hk := hk.2 c2
    exact x_thr (text := "there is no such take") C0 T0 hl0 hne () hk hP hD hS hl.1 (by decide +kernel) (by decide +kernel) (by decide +kernel) xw_X4_synced_IO x_ngIO x_otIO (by decide +kernel) (by decide) (Nat.le_of_ble_eq_true rfl) (by decide) (by decide) dX4_synced_11 dX4_synced_14 dX4_synced_15 dX4_synced_17 dX4_synced_20
theorem xc_X4_synced (l : Launch) (hl0 : l.stackTraces = false) (D : va_G) (cI cC cZ cL : ClassId) (sf : Nat → Nat) (tL tH : Nat) (h h_now h_copy h_past h_slots h_saved h_text h_shown h_now_cells : Nat)  (sz : Nat) (f_remembered : Int32) (f_oldest : Int32) (f_now_cells : Nat → Int32) (x1 : Int32) (K : Int32 → Prop) (KX : String → Prop) (hk : xp_X4_synced f_now_cells x1 K KX) : XMx l yX4_synced wsX4_synced ({ frames := 6, cells := 1, slots := 6, locals := 92 } : Room) D (xTY cI cC cZ cL) sf tL tH [.ref h, .int x1] [(h, .inr (4, [.ref h_now, .ref h_copy, .ref h_past, .ref h_slots, .ref h_saved, .ref h_text, .ref h_shown, .int f_remembered, .int f_oldest])), (h_now, .inr (3, [.ref h_now_cells])), (h_now_cells, .inl (cI, 400, .inl f_now_cells))] sz (fun (r : Int32) (_ : Unit) => K r) (fun (E : String) (_ : Unit) => KX E) (fun (_ : Unit) => [(h, .inr (4, [.ref h_now, .ref h_copy, .ref h_past, .ref h_slots, .ref h_saved, .ref h_text, .ref h_shown, .int f_remembered, .int f_oldest])), (h_now, .inr (3, [.ref h_now_cells])), (h_now_cells, .inl (cI, 400, .inl f_now_cells))]) :=
  x_enterX (cc := cX4_synced) (maxL := 2) (ret := (some .int)) (own := RX4) (by decide) rfl rfl (Nat.le_of_ble_eq_true rfl) (fun p e s m below meth c ls C0 T0 hne hA hP hD hS hl => xb_X4_synced_0 C0 hA T0 hl0 hne _ hk s.heap [] ls hP hD hS hl)
set_option maxRecDepth 20000 in
theorem xw_X4_rolls_IA : ∀ w ∈ (vx_atS RX4 53 xIA xNm).filter goodWord, w ∈ wsX4_rolls := by decide +kernel
set_option maxRecDepth 20000 in
theorem xin_X4_rolls_X4 : ∀ w ∈ u_ws RX4 TX4 9, w ∈ wsX4_rolls := by decide +kernel
set_option maxRecDepth 20000 in
theorem xin_X4_rolls_X3 : ∀ w ∈ u_ws RX3 TX3 1, w ∈ wsX4_rolls := by decide +kernel
set_option maxHeartbeats 4000000 in
set_option maxRecDepth 100000 in
theorem xb_X4_rolls_18 {p : Program} {l : Launch} {e : Env} {s : State} {m : MethodId} {args : Array Value} {below : List Frame} {meth : Method} {c : Code} {A : Nat → Prop} {D : va_G} {cI cC cZ cL : ClassId} {sf : Nat → Nat} {tL tH : Nat} {h h_now h_copy h_past h_slots h_saved h_text h_shown h_now_cells : Nat}  {f_remembered : Int32} {f_oldest : Int32} {f_now_cells : Nat → Int32} {K : Int32 → Prop} {KX : String → Prop}  (C0 : xC p s m args meth c cX4_rolls 6 (some .int) wsX4_rolls RX4 D (xTY cI cC cZ cL)) (hA : ∀ q : Nat, s.heap.size ≤ q → A q) (T0 : xT sf tL tH A s s.heap) (hl0 : l.stackTraces = false) (hne : ∀ x ∈ c.exceptionTable.toList, False)  : xp_X4_rolls_18 f_now_cells K KX  → ∀ (H : Heap) (locs : List Loc) (ls : Array Slot), va_P D vwCl [(h, .inr (4, [.ref h_now, .ref h_copy, .ref h_past, .ref h_slots, .ref h_saved, .ref h_text, .ref h_shown, .int f_remembered, .int f_oldest])), (h_now, .inr (3, [.ref h_now_cells])), (h_now_cells, .inl (cI, 400, .inl f_now_cells))] H → va_D A [(h, .inr (4, [.ref h_now, .ref h_copy, .ref h_past, .ref h_slots, .ref h_saved, .ref h_text, .ref h_shown, .int f_remembered, .int f_oldest])), (h_now, .inr (3, [.ref h_now_cells])), (h_now_cells, .inl (cI, 400, .inl f_now_cells))] → va_S A s.heap H locs → lv_has ls 6 [] → W p l e ({ frames := 6, cells := 1, slots := 6, locals := 92 } : Room) s m args below meth c H locs 0 0 (vx_MQ below (va_Qi (fun (r : Int32) (_ : Unit) => K r) (fun u t => xE D A ((fun (_ : Unit) => [(h, .inr (4, [.ref h_now, .ref h_copy, .ref h_past, .ref h_slots, .ref h_saved, .ref h_text, .ref h_shown, .int f_remembered, .int f_oldest])), (h_now, .inr (3, [.ref h_now_cells])), (h_now_cells, .inl (cI, 400, .inl f_now_cells))]) u) t) A) (vx_X (fun (_ : Unit) => True) (fun E u t => ((fun (E : String) (_ : Unit) => KX E) E u) ∧ xE D A ((fun (_ : Unit) => [(h, .inr (4, [.ref h_now, .ref h_copy, .ref h_past, .ref h_slots, .ref h_saved, .ref h_text, .ref h_shown, .int f_remembered, .int f_oldest])), (h_now, .inr (3, [.ref h_now_cells])), (h_now_cells, .inl (cI, 400, .inl f_now_cells))]) u) t) A) args s 1 6 A) (F0 m 18 ls []) := by
  obtain ⟨hx, hb, hr, hml, hown, hts, hlocks, hK, hN⟩ := id C0
  intro  hk H locs ls hP hD hS hl
  rw [xp_X4_rolls_18] at hk
  exact x_thr (text := "the seconds are not 1 to 120, or the takes not 1 to 99") C0 T0 hl0 hne () hk hP hD hS hl.1 (by decide +kernel) (by decide +kernel) (by decide +kernel) xw_X4_rolls_IA x_ngIA x_otIA (by decide +kernel) (by decide) (Nat.le_of_ble_eq_true rfl) (by decide) (by decide) dX4_rolls_18 dX4_rolls_21 dX4_rolls_22 dX4_rolls_24 dX4_rolls_27
set_option maxHeartbeats 4000000 in
set_option maxRecDepth 100000 in
theorem xb_X4_rolls_67 {p : Program} {l : Launch} {e : Env} {s : State} {m : MethodId} {args : Array Value} {below : List Frame} {meth : Method} {c : Code} {A : Nat → Prop} {D : va_G} {cI cC cZ cL : ClassId} {sf : Nat → Nat} {tL tH : Nat} {h h_now h_copy h_past h_slots h_saved h_text h_shown h_now_cells : Nat}  {f_remembered : Int32} {f_oldest : Int32} {f_now_cells : Nat → Int32} {K : Int32 → Prop} {KX : String → Prop} {X42 : Int32 → Int32 → Int32 → Int32 → Int32 → Prop} (C0 : xC p s m args meth c cX4_rolls 6 (some .int) wsX4_rolls RX4 D (xTY cI cC cZ cL)) (hA : ∀ q : Nat, s.heap.size ≤ q → A q) (T0 : xT sf tL tH A s s.heap) (hl0 : l.stackTraces = false) (hne : ∀ x ∈ c.exceptionTable.toList, False) (hX42 : ∀ (v1 : Int32) (v2 : Int32) (v3 : Int32) (v4 : Int32) (v5 : Int32), X42 v1 v2 v3 v4 v5 → ∀ (H : Heap) (locs : List Loc) (ls : Array Slot), va_P D vwCl [(h, .inr (4, [.ref h_now, .ref h_copy, .ref h_past, .ref h_slots, .ref h_saved, .ref h_text, .ref h_shown, .int f_remembered, .int f_oldest])), (h_now, .inr (3, [.ref h_now_cells])), (h_now_cells, .inl (cI, 400, .inl f_now_cells))] H → va_D A [(h, .inr (4, [.ref h_now, .ref h_copy, .ref h_past, .ref h_slots, .ref h_saved, .ref h_text, .ref h_shown, .int f_remembered, .int f_oldest])), (h_now, .inr (3, [.ref h_now_cells])), (h_now_cells, .inl (cI, 400, .inl f_now_cells))] → va_S A s.heap H locs → lv_has ls 6 [(0, .ref h), (1, .int v1), (2, .int v2), (3, .int v3), (4, .int v4), (5, .int v5)] → W p l e ({ frames := 6, cells := 1, slots := 6, locals := 92 } : Room) s m args below meth c H locs 0 0 (vx_MQ below (va_Qi (fun (r : Int32) (_ : Unit) => K r) (fun u t => xE D A ((fun (_ : Unit) => [(h, .inr (4, [.ref h_now, .ref h_copy, .ref h_past, .ref h_slots, .ref h_saved, .ref h_text, .ref h_shown, .int f_remembered, .int f_oldest])), (h_now, .inr (3, [.ref h_now_cells])), (h_now_cells, .inl (cI, 400, .inl f_now_cells))]) u) t) A) (vx_X (fun (_ : Unit) => True) (fun E u t => ((fun (E : String) (_ : Unit) => KX E) E u) ∧ xE D A ((fun (_ : Unit) => [(h, .inr (4, [.ref h_now, .ref h_copy, .ref h_past, .ref h_slots, .ref h_saved, .ref h_text, .ref h_shown, .int f_remembered, .int f_oldest])), (h_now, .inr (3, [.ref h_now_cells])), (h_now_cells, .inl (cI, 400, .inl f_now_cells))]) u) t) A) args s 1 6 A) (F0 m 42 ls [])) : ∀ (v1 : Int32) (v2 : Int32) (v3 : Int32) (v4 : Int32) (v5 : Int32) , xp_X4_rolls_67 f_now_cells K KX X42 v1 v2 v3 v4 v5 → ∀ (H : Heap) (locs : List Loc) (ls : Array Slot), va_P D vwCl [(h, .inr (4, [.ref h_now, .ref h_copy, .ref h_past, .ref h_slots, .ref h_saved, .ref h_text, .ref h_shown, .int f_remembered, .int f_oldest])), (h_now, .inr (3, [.ref h_now_cells])), (h_now_cells, .inl (cI, 400, .inl f_now_cells))] H → va_D A [(h, .inr (4, [.ref h_now, .ref h_copy, .ref h_past, .ref h_slots, .ref h_saved, .ref h_text, .ref h_shown, .int f_remembered, .int f_oldest])), (h_now, .inr (3, [.ref h_now_cells])), (h_now_cells, .inl (cI, 400, .inl f_now_cells))] → va_S A s.heap H locs → lv_has ls 6 [(0, .ref h), (1, .int v1), (2, .int v2), (3, .int v3), (4, .int v4), (5, .int v5)] → W p l e ({ frames := 6, cells := 1, slots := 6, locals := 92 } : Room) s m args below meth c H locs 0 0 (vx_MQ below (va_Qi (fun (r : Int32) (_ : Unit) => K r) (fun u t => xE D A ((fun (_ : Unit) => [(h, .inr (4, [.ref h_now, .ref h_copy, .ref h_past, .ref h_slots, .ref h_saved, .ref h_text, .ref h_shown, .int f_remembered, .int f_oldest])), (h_now, .inr (3, [.ref h_now_cells])), (h_now_cells, .inl (cI, 400, .inl f_now_cells))]) u) t) A) (vx_X (fun (_ : Unit) => True) (fun E u t => ((fun (E : String) (_ : Unit) => KX E) E u) ∧ xE D A ((fun (_ : Unit) => [(h, .inr (4, [.ref h_now, .ref h_copy, .ref h_past, .ref h_slots, .ref h_saved, .ref h_text, .ref h_shown, .int f_remembered, .int f_oldest])), (h_now, .inr (3, [.ref h_now_cells])), (h_now_cells, .inl (cI, 400, .inl f_now_cells))]) u) t) A) args s 1 6 A) (F0 m 67 ls []) := by
  obtain ⟨hx, hb, hr, hml, hown, hts, hlocks, hK, hN⟩ := id C0
  intro v1 v2 v3 v4 v5 hk H locs ls hP hD hS hl
  rw [xp_X4_rolls_67] at hk
  refine lv_iload hx hb dX4_rolls_67 (lv_at hl 4 rfl) ?_
  refine lv_iload_n hx hb dX4_rolls_69 rfl (lv_at hl 1 rfl) ?_
  refine lv_iload hx hb dX4_rolls_70 (lv_at hl 4 rfl) ?_
  refine va_mmin hx hb (hml.trans hl.1.symm) hown (hts (.methodLink RX4 239 Lib.Math.min.name) (by decide +kernel)) (hts (.static Lib.Math.min.name) (by decide +kernel)) (hts (.initialized "java/lang/Math") (by decide +kernel)) (hts (.code Lib.Math.min.name Lib.Math.min.code 2 (some .int)) (by decide +kernel)) (by decide) (Nat.le_of_ble_eq_true rfl) (Nat.zero_le _) (Nat.zero_le _) dX4_rolls_72 ?_
  refine lv_isub hx hb dX4_rolls_75 ?_
  refine lv_istore (lv' := [(4, .int (v4 - (if v4 < v1 then v4 else v1))), (0, .ref h), (1, .int v1), (2, .int v2), (3, .int v3), (5, .int v5)]) hx hb dX4_rolls_76 hl (by decide) rfl (fun ls hl => ?_)
  refine lv_iinc (v := (v5 + 1)) (lv' := [(5, .int (v5 + 1)), (4, .int (v4 - (if v4 < v1 then v4 else v1))), (0, .ref h), (1, .int v1), (2, .int v2), (3, .int v3)]) hx hb dX4_rolls_78 hl (k := 5) rfl rfl (by decide) rfl (fun ls hl => ?_)
  refine lv_goto (tgt := 42) hx hb dX4_rolls_81 (by decide) ?_
  exact hX42 _ _ _ _ _ hk H locs ls hP hD hS (lv_sub hl [2, 3, 4, 5, 1, 0] rfl)
set_option maxHeartbeats 4000000 in
set_option maxRecDepth 100000 in
theorem xb_X4_rolls_42 {p : Program} {l : Launch} {e : Env} {s : State} {m : MethodId} {args : Array Value} {below : List Frame} {meth : Method} {c : Code} {A : Nat → Prop} {D : va_G} {cI cC cZ cL : ClassId} {sf : Nat → Nat} {tL tH : Nat} {h h_now h_copy h_past h_slots h_saved h_text h_shown h_now_cells : Nat}  {f_remembered : Int32} {f_oldest : Int32} {f_now_cells : Nat → Int32} {K : Int32 → Prop} {KX : String → Prop}  (C0 : xC p s m args meth c cX4_rolls 6 (some .int) wsX4_rolls RX4 D (xTY cI cC cZ cL)) (hA : ∀ q : Nat, s.heap.size ≤ q → A q) (T0 : xT sf tL tH A s s.heap) (hl0 : l.stackTraces = false) (hne : ∀ x ∈ c.exceptionTable.toList, False)  : ∀ (n : Nat) (v1 : Int32) (v2 : Int32) (v3 : Int32) (v4 : Int32) (v5 : Int32) , xp_X4_rolls_42 f_now_cells K KX n v1 v2 v3 v4 v5 → ∀ (H : Heap) (locs : List Loc) (ls : Array Slot), va_P D vwCl [(h, .inr (4, [.ref h_now, .ref h_copy, .ref h_past, .ref h_slots, .ref h_saved, .ref h_text, .ref h_shown, .int f_remembered, .int f_oldest])), (h_now, .inr (3, [.ref h_now_cells])), (h_now_cells, .inl (cI, 400, .inl f_now_cells))] H → va_D A [(h, .inr (4, [.ref h_now, .ref h_copy, .ref h_past, .ref h_slots, .ref h_saved, .ref h_text, .ref h_shown, .int f_remembered, .int f_oldest])), (h_now, .inr (3, [.ref h_now_cells])), (h_now_cells, .inl (cI, 400, .inl f_now_cells))] → va_S A s.heap H locs → lv_has ls 6 [(0, .ref h), (1, .int v1), (2, .int v2), (3, .int v3), (4, .int v4), (5, .int v5)] → W p l e ({ frames := 6, cells := 1, slots := 6, locals := 92 } : Room) s m args below meth c H locs 0 0 (vx_MQ below (va_Qi (fun (r : Int32) (_ : Unit) => K r) (fun u t => xE D A ((fun (_ : Unit) => [(h, .inr (4, [.ref h_now, .ref h_copy, .ref h_past, .ref h_slots, .ref h_saved, .ref h_text, .ref h_shown, .int f_remembered, .int f_oldest])), (h_now, .inr (3, [.ref h_now_cells])), (h_now_cells, .inl (cI, 400, .inl f_now_cells))]) u) t) A) (vx_X (fun (_ : Unit) => True) (fun E u t => ((fun (E : String) (_ : Unit) => KX E) E u) ∧ xE D A ((fun (_ : Unit) => [(h, .inr (4, [.ref h_now, .ref h_copy, .ref h_past, .ref h_slots, .ref h_saved, .ref h_text, .ref h_shown, .int f_remembered, .int f_oldest])), (h_now, .inr (3, [.ref h_now_cells])), (h_now_cells, .inl (cI, 400, .inl f_now_cells))]) u) t) A) args s 1 6 A) (F0 m 42 ls []) := by
  obtain ⟨hx, hb, hr, hml, hown, hts, hlocks, hK, hN⟩ := id C0
  intro n
  induction n with
  | zero => intro v1 v2 v3 v4 v5 hk; exact hk.elim
  | succ n ih =>
    intro v1 v2 v3 v4 v5 hk H locs ls hP hD hS hl
    rw [xp_X4_rolls_42] at hk
    refine lv_iload hx hb dX4_rolls_42 (lv_at hl 5 rfl) ?_
    refine lv_iload_n hx hb dX4_rolls_44 rfl (lv_at hl 2 rfl) ?_
    refine lv_icmp_ge (tgt := 84) hx hb dX4_rolls_45 (by decide) (fun c1 => ?_) (fun c1 => ?_)
    · have hk := hk.1 c1
      refine lv_iload_n hx hb dX4_rolls_84 rfl (lv_at hl 3 rfl) ?_
      exact x_retiX C0 () hk hP hD hS dX4_rolls_85
    · have hk := hk.2 c1
      refine lv_iload hx hb dX4_rolls_48 (lv_at hl 4 rfl) ?_
      refine lv_iload_n hx hb dX4_rolls_50 rfl (lv_at hl 1 rfl) ?_
      refine lv_icmp_ge (tgt := 67) hx hb dX4_rolls_51 (by decide) (fun c2 => ?_) (fun c2 => ?_)
      · have hk := hk.1 c2
        exact xb_X4_rolls_67 C0 hA T0 hl0 hne ih _ _ _ _ _ hk H locs ls hP hD hS (lv_sub hl [0, 1, 2, 3, 4, 5] rfl)
      · have hk := hk.2 c2
        refine lv_iinc (v := (v3 + 1)) (lv' := [(3, .int (v3 + 1)), (0, .ref h), (1, .int v1), (2, .int v2), (4, .int v4), (5, .int v5)]) hx hb dX4_rolls_54 hl (k := 3) rfl rfl (by decide) rfl (fun ls hl => ?_)
        refine lv_aload_n hx hb dX4_rolls_57 rfl (lv_at hl 1 rfl) ?_
        refine va_get (D := D) (ci := 4) (v := .ref h_now) (C := RX4) (T := TX4) (N := 9) hx hb hts xin_X4_rolls_X4 hown hK hP 0 rfl rfl 0 (by decide) (hts (.fieldLink RX4 12 "TakeLog" "now" "LTakeLog$State;") (by decide +kernel)) (fun _ h9 => h9) rfl dX4_rolls_58 ?_
        refine lv_iconst (v := 0) hx hb dX4_rolls_61 (by decide) ?_
        refine x_joini (ws1 := fun (_ : Unit) => [(h, .inr (4, [.ref h_now, .ref h_copy, .ref h_past, .ref h_slots, .ref h_saved, .ref h_text, .ref h_shown, .int f_remembered, .int f_oldest])), (h_now, .inr (3, [.ref h_now_cells])), (h_now_cells, .inl (cI, 400, .inl f_now_cells))]) (x_runV (n0 := 1) (As := [.int 0]) (rest := []) C0 (xc_X3_chosen l D cI cC cZ cL h_now h_now_cells H.size f_now_cells 0 _ hk) gX4_rolls_X3_chosen rfl ⟨rfl, rfl⟩ (by decide +kernel) rfl ⟨by decide, by decide⟩ ⟨Nat.zero_le _, Nat.zero_le _⟩ hP hD [1, 2] rfl rfl (k := 1) rfl rfl rfl hl.1 rfl (Nat.le_of_ble_eq_true rfl) dX4_rolls_62) hP hD hS hA [1, 2] [0] [0, 1, 2] rfl rfl rfl (by decide) (fun _ => rfl) rfl (fun r3 u3 H locs hk hP hD hS => ?_)
        refine lv_istore (lv' := [(4, .int r3), (3, .int (v3 + 1)), (0, .ref h), (1, .int v1), (2, .int v2), (5, .int v5)]) hx hb dX4_rolls_65 hl (by decide) rfl (fun ls hl => ?_)
        exact xb_X4_rolls_67 C0 hA T0 hl0 hne ih _ _ _ _ _ hk H locs ls hP hD hS (lv_sub hl [2, 3, 4, 1, 0, 5] rfl)
set_option maxHeartbeats 4000000 in
set_option maxRecDepth 100000 in
theorem xb_X4_rolls_0 {p : Program} {l : Launch} {e : Env} {s : State} {m : MethodId} {args : Array Value} {below : List Frame} {meth : Method} {c : Code} {A : Nat → Prop} {D : va_G} {cI cC cZ cL : ClassId} {sf : Nat → Nat} {tL tH : Nat} {h h_now h_copy h_past h_slots h_saved h_text h_shown h_now_cells : Nat}  {f_remembered : Int32} {f_oldest : Int32} {f_now_cells : Nat → Int32} {K : Int32 → Prop} {KX : String → Prop}  (C0 : xC p s m args meth c cX4_rolls 6 (some .int) wsX4_rolls RX4 D (xTY cI cC cZ cL)) (hA : ∀ q : Nat, s.heap.size ≤ q → A q) (T0 : xT sf tL tH A s s.heap) (hl0 : l.stackTraces = false) (hne : ∀ x ∈ c.exceptionTable.toList, False)  : ∀ (x1 : Int32) (x2 : Int32) , xp_X4_rolls f_now_cells x1 x2 K KX → ∀ (H : Heap) (locs : List Loc) (ls : Array Slot), va_P D vwCl [(h, .inr (4, [.ref h_now, .ref h_copy, .ref h_past, .ref h_slots, .ref h_saved, .ref h_text, .ref h_shown, .int f_remembered, .int f_oldest])), (h_now, .inr (3, [.ref h_now_cells])), (h_now_cells, .inl (cI, 400, .inl f_now_cells))] H → va_D A [(h, .inr (4, [.ref h_now, .ref h_copy, .ref h_past, .ref h_slots, .ref h_saved, .ref h_text, .ref h_shown, .int f_remembered, .int f_oldest])), (h_now, .inr (3, [.ref h_now_cells])), (h_now_cells, .inl (cI, 400, .inl f_now_cells))] → va_S A s.heap H locs → lv_has ls 6 [(0, .ref h), (1, .int x1), (2, .int x2)] → W p l e ({ frames := 6, cells := 1, slots := 6, locals := 92 } : Room) s m args below meth c H locs 0 0 (vx_MQ below (va_Qi (fun (r : Int32) (_ : Unit) => K r) (fun u t => xE D A ((fun (_ : Unit) => [(h, .inr (4, [.ref h_now, .ref h_copy, .ref h_past, .ref h_slots, .ref h_saved, .ref h_text, .ref h_shown, .int f_remembered, .int f_oldest])), (h_now, .inr (3, [.ref h_now_cells])), (h_now_cells, .inl (cI, 400, .inl f_now_cells))]) u) t) A) (vx_X (fun (_ : Unit) => True) (fun E u t => ((fun (E : String) (_ : Unit) => KX E) E u) ∧ xE D A ((fun (_ : Unit) => [(h, .inr (4, [.ref h_now, .ref h_copy, .ref h_past, .ref h_slots, .ref h_saved, .ref h_text, .ref h_shown, .int f_remembered, .int f_oldest])), (h_now, .inr (3, [.ref h_now_cells])), (h_now_cells, .inl (cI, 400, .inl f_now_cells))]) u) t) A) args s 1 6 A) (F0 m 0 ls []) := by
  obtain ⟨hx, hb, hr, hml, hown, hts, hlocks, hK, hN⟩ := id C0
  intro x1 x2 hk H locs ls hP hD hS hl
  rw [xp_X4_rolls] at hk
  refine lv_iload_n hx hb dX4_rolls_0 rfl (lv_at hl 1 rfl) ?_
  refine x_joini (ws1 := fun (_ : Unit) => [(h, .inr (4, [.ref h_now, .ref h_copy, .ref h_past, .ref h_slots, .ref h_saved, .ref h_text, .ref h_shown, .int f_remembered, .int f_oldest])), (h_now, .inr (3, [.ref h_now_cells])), (h_now_cells, .inl (cI, 400, .inl f_now_cells))]) (x_runO (n0 := 1) (As := [.int x1]) (rest := []) C0 (xc_X4_isLength l D cI cC cZ cL  H.size x1 _ hk) gX4_rolls_X4_isLength rfl ⟨rfl, rfl⟩ (by decide +kernel) rfl ⟨by decide, by decide⟩ ⟨Nat.zero_le _, Nat.zero_le _⟩ hP hD [] rfl rfl hl.1 rfl (Nat.le_of_ble_eq_true rfl) dX4_rolls_1) hP hD hS hA [] [0, 1, 2] [0, 1, 2] rfl rfl rfl (by decide) (fun _ => rfl) rfl (fun r1 u1 H locs hk hP hD hS => ?_)
  refine lv_if_eq (tgt := 18) hx hb dX4_rolls_4 (by decide) (fun c2 => ?_) (fun c2 => ?_)
  · have hk := hk.1 c2
    exact xb_X4_rolls_18 C0 hA T0 hl0 hne   hk H locs ls hP hD hS (lv_sub hl [] rfl)
  · have hk := hk.2 c2
    refine lv_iload_n hx hb dX4_rolls_7 rfl (lv_at hl 2 rfl) ?_
    refine lv_iconst (v := 1) hx hb dX4_rolls_8 (by decide) ?_
    refine lv_icmp_lt (tgt := 18) hx hb dX4_rolls_9 (by decide) (fun c3 => ?_) (fun c3 => ?_)
    · have hk := hk.1 c3
      exact xb_X4_rolls_18 C0 hA T0 hl0 hne   hk H locs ls hP hD hS (lv_sub hl [] rfl)
    · have hk := hk.2 c3
      refine lv_iload_n hx hb dX4_rolls_12 rfl (lv_at hl 2 rfl) ?_
      refine lv_bipush (v := 99) hx hb dX4_rolls_13 (by decide) ?_
      refine lv_icmp_le (tgt := 28) hx hb dX4_rolls_15 (by decide) (fun c4 => ?_) (fun c4 => ?_)
      · have hk := hk.1 c4
        refine lv_iconst (v := 0) hx hb dX4_rolls_28 (by decide) ?_
        refine lv_istore_n (lv' := [(3, .int 0), (0, .ref h), (1, .int x1), (2, .int x2)]) hx hb dX4_rolls_29 rfl hl (by decide) rfl (fun ls hl => ?_)
        refine lv_aload_n hx hb dX4_rolls_30 rfl (lv_at hl 1 rfl) ?_
        refine va_get (D := D) (ci := 4) (v := .ref h_now) (C := RX4) (T := TX4) (N := 9) hx hb hts xin_X4_rolls_X4 hown hK hP 0 rfl rfl 0 (by decide) (hts (.fieldLink RX4 12 "TakeLog" "now" "LTakeLog$State;") (by decide +kernel)) (fun _ h9 => h9) rfl dX4_rolls_31 ?_
        refine x_joini (ws1 := fun (_ : Unit) => [(h, .inr (4, [.ref h_now, .ref h_copy, .ref h_past, .ref h_slots, .ref h_saved, .ref h_text, .ref h_shown, .int f_remembered, .int f_oldest])), (h_now, .inr (3, [.ref h_now_cells])), (h_now_cells, .inl (cI, 400, .inl f_now_cells))]) (x_runV (n0 := 0) (As := []) (rest := []) C0 (xc_X3_cameraLeft l D cI cC cZ cL h_now h_now_cells H.size f_now_cells _ hk) gX4_rolls_X3_cameraLeft rfl ⟨rfl, rfl⟩ (by decide +kernel) rfl ⟨by decide, by decide⟩ ⟨Nat.zero_le _, Nat.zero_le _⟩ hP hD [1, 2] rfl rfl (k := 1) rfl rfl rfl hl.1 rfl (Nat.le_of_ble_eq_true rfl) dX4_rolls_34) hP hD hS hA [1, 2] [0] [0, 1, 2] rfl rfl rfl (by decide) (fun _ => rfl) rfl (fun r5 u5 H locs hk hP hD hS => ?_)
        refine lv_istore (lv' := [(4, .int r5), (3, .int 0), (0, .ref h), (1, .int x1), (2, .int x2)]) hx hb dX4_rolls_37 hl (by decide) rfl (fun ls hl => ?_)
        refine lv_iconst (v := 0) hx hb dX4_rolls_39 (by decide) ?_
        refine lv_istore (lv' := [(5, .int 0), (4, .int r5), (3, .int 0), (0, .ref h), (1, .int x1), (2, .int x2)]) hx hb dX4_rolls_40 hl (by decide) rfl (fun ls hl => ?_)
        obtain ⟨n9, hk⟩ := hk
        exact xb_X4_rolls_42 C0 hA T0 hl0 hne  n9 _ _ _ _ _ hk H locs ls hP hD hS (lv_sub hl [3, 4, 5, 2, 1, 0] rfl)
      · have hk := hk.2 c4
        exact xb_X4_rolls_18 C0 hA T0 hl0 hne   hk H locs ls hP hD hS (lv_sub hl [] rfl)
theorem xc_X4_rolls (l : Launch) (hl0 : l.stackTraces = false) (D : va_G) (cI cC cZ cL : ClassId) (sf : Nat → Nat) (tL tH : Nat) (h h_now h_copy h_past h_slots h_saved h_text h_shown h_now_cells : Nat)  (sz : Nat) (f_remembered : Int32) (f_oldest : Int32) (f_now_cells : Nat → Int32) (x1 : Int32) (x2 : Int32) (K : Int32 → Prop) (KX : String → Prop) (hk : xp_X4_rolls f_now_cells x1 x2 K KX) : XMx l yX4_rolls wsX4_rolls ({ frames := 6, cells := 1, slots := 6, locals := 92 } : Room) D (xTY cI cC cZ cL) sf tL tH [.ref h, .int x1, .int x2] [(h, .inr (4, [.ref h_now, .ref h_copy, .ref h_past, .ref h_slots, .ref h_saved, .ref h_text, .ref h_shown, .int f_remembered, .int f_oldest])), (h_now, .inr (3, [.ref h_now_cells])), (h_now_cells, .inl (cI, 400, .inl f_now_cells))] sz (fun (r : Int32) (_ : Unit) => K r) (fun (E : String) (_ : Unit) => KX E) (fun (_ : Unit) => [(h, .inr (4, [.ref h_now, .ref h_copy, .ref h_past, .ref h_slots, .ref h_saved, .ref h_text, .ref h_shown, .int f_remembered, .int f_oldest])), (h_now, .inr (3, [.ref h_now_cells])), (h_now_cells, .inl (cI, 400, .inl f_now_cells))]) :=
  x_enterX (cc := cX4_rolls) (maxL := 6) (ret := (some .int)) (own := RX4) (by decide) rfl rfl (Nat.le_of_ble_eq_true rfl) (fun p e s m below meth c ls C0 T0 hne hA hP hD hS hl => xb_X4_rolls_0 C0 hA T0 hl0 hne _ _ hk s.heap [] ls hP hD hS hl)
set_option maxRecDepth 20000 in
theorem xw_X4_ifFalse_IO : ∀ w ∈ (vx_atS RX4 101 xIO xNm).filter goodWord, w ∈ wsX4_ifFalse := by decide +kernel
set_option maxRecDepth 20000 in
theorem xin_X4_ifFalse_X4 : ∀ w ∈ u_ws RX4 TX4 9, w ∈ wsX4_ifFalse := by decide +kernel
set_option maxRecDepth 20000 in
theorem xin_X4_ifFalse_X3 : ∀ w ∈ u_ws RX3 TX3 1, w ∈ wsX4_ifFalse := by decide +kernel
set_option maxHeartbeats 4000000 in
set_option maxRecDepth 100000 in
theorem xb_X4_ifFalse_57 {p : Program} {l : Launch} {e : Env} {s : State} {m : MethodId} {args : Array Value} {below : List Frame} {meth : Method} {c : Code} {A : Nat → Prop} {D : va_G} {cI cC cZ cL : ClassId} {sf : Nat → Nat} {tL tH : Nat} {h h_now h_copy h_past h_slots h_saved h_text h_shown h_now_cells h_copy_cells : Nat}  {f_remembered : Int32} {f_oldest : Int32} {f_now_cells : Nat → Int32} {K : Int32 → ((Nat → Int32)) → Prop} {KX : String → ((Nat → Int32)) → Prop}  (C0 : xC p s m args meth c cX4_ifFalse 2 (some .int) wsX4_ifFalse RX4 D (xTY cI cC cZ cL)) (hA : ∀ q : Nat, s.heap.size ≤ q → A q) (T0 : xT sf tL tH A s s.heap) (hl0 : l.stackTraces = false) (hne : ∀ x ∈ c.exceptionTable.toList, False)  : ∀ (f_copy_cells : Nat → Int32) (t0 : Int32) (t2 : Int32) , xp_X4_ifFalse_57 f_now_cells K KX f_copy_cells t0 t2 → ∀ (H : Heap) (locs : List Loc) (ls : Array Slot), va_P D vwCl [(h, .inr (4, [.ref h_now, .ref h_copy, .ref h_past, .ref h_slots, .ref h_saved, .ref h_text, .ref h_shown, .int f_remembered, .int f_oldest])), (h_now, .inr (3, [.ref h_now_cells])), (h_now_cells, .inl (cI, 400, .inl f_now_cells)), (h_copy, .inr (3, [.ref h_copy_cells])), (h_copy_cells, .inl (cI, 400, .inl f_copy_cells))] H → va_D A [(h, .inr (4, [.ref h_now, .ref h_copy, .ref h_past, .ref h_slots, .ref h_saved, .ref h_text, .ref h_shown, .int f_remembered, .int f_oldest])), (h_now, .inr (3, [.ref h_now_cells])), (h_now_cells, .inl (cI, 400, .inl f_now_cells)), (h_copy, .inr (3, [.ref h_copy_cells])), (h_copy_cells, .inl (cI, 400, .inl f_copy_cells))] → va_S A s.heap H locs → lv_has ls 2 [(0, .ref h)] → W p l e ({ frames := 6, cells := 1, slots := 6, locals := 112 } : Room) s m args below meth c H locs 0 0 (vx_MQ below (va_Qi (fun (r : Int32) (u : (Nat → Int32)) => K r u) (fun u t => xE D A ((fun (u : (Nat → Int32)) => [(h, .inr (4, [.ref h_now, .ref h_copy, .ref h_past, .ref h_slots, .ref h_saved, .ref h_text, .ref h_shown, .int f_remembered, .int f_oldest])), (h_now, .inr (3, [.ref h_now_cells])), (h_now_cells, .inl (cI, 400, .inl f_now_cells)), (h_copy, .inr (3, [.ref h_copy_cells])), (h_copy_cells, .inl (cI, 400, .inl u))]) u) t) A) (vx_X (fun (_ : (Nat → Int32)) => True) (fun E u t => ((fun (E : String) (u : (Nat → Int32)) => KX E u) E u) ∧ xE D A ((fun (u : (Nat → Int32)) => [(h, .inr (4, [.ref h_now, .ref h_copy, .ref h_past, .ref h_slots, .ref h_saved, .ref h_text, .ref h_shown, .int f_remembered, .int f_oldest])), (h_now, .inr (3, [.ref h_now_cells])), (h_now_cells, .inl (cI, 400, .inl f_now_cells)), (h_copy, .inr (3, [.ref h_copy_cells])), (h_copy_cells, .inl (cI, 400, .inl u))]) u) t) A) args s 1 6 A) (F0 m 57 ls [.int t0, .int 15, .int t2, .ref h_copy]) := by
  obtain ⟨hx, hb, hr, hml, hown, hts, hlocks, hK, hN⟩ := id C0
  intro f_copy_cells t0 t2 hk H locs ls hP hD hS hl
  rw [xp_X4_ifFalse_57] at hk
  refine x_joini (ws1 := fun (u1 : (Nat → Int32)) => [(h, .inr (4, [.ref h_now, .ref h_copy, .ref h_past, .ref h_slots, .ref h_saved, .ref h_text, .ref h_shown, .int f_remembered, .int f_oldest])), (h_now, .inr (3, [.ref h_now_cells])), (h_now_cells, .inl (cI, 400, .inl f_now_cells)), (h_copy, .inr (3, [.ref h_copy_cells])), (h_copy_cells, .inl (cI, 400, .inl u1))]) (x_runV (n0 := 3) (As := [.int t2, .int 15, .int t0]) (rest := []) C0 (xc_X3_mark l D cI cC cZ cL h_copy h_copy_cells H.size f_copy_cells t2 15 t0 _ hk) gX4_ifFalse_X3_mark rfl ⟨rfl, rfl⟩ (by decide +kernel) rfl ⟨by decide, by decide⟩ ⟨Nat.zero_le _, Nat.zero_le _⟩ hP hD [3, 4] rfl rfl (k := 3) rfl rfl rfl hl.1 rfl (Nat.le_of_ble_eq_true rfl) dX4_ifFalse_57) hP hD hS hA [3, 4] [0, 1, 2] [0, 1, 2, 3, 4] rfl rfl rfl (by decide) (fun _ => rfl) rfl (fun r1 u1 H locs hk hP hD hS => ?_)
  refine lv_pop hx hb dX4_ifFalse_60 rfl ?_
  refine lv_aload_n hx hb dX4_ifFalse_61 rfl (lv_at hl 0 rfl) ?_
  refine va_get (D := D) (ci := 4) (v := .ref h_now) (C := RX4) (T := TX4) (N := 9) hx hb hts xin_X4_ifFalse_X4 hown hK hP 0 rfl rfl 0 (by decide) (hts (.fieldLink RX4 12 "TakeLog" "now" "LTakeLog$State;") (by decide +kernel)) (fun _ h9 => h9) rfl dX4_ifFalse_62 ?_
  refine x_joini (ws1 := fun (_ : Unit) => [(h, .inr (4, [.ref h_now, .ref h_copy, .ref h_past, .ref h_slots, .ref h_saved, .ref h_text, .ref h_shown, .int f_remembered, .int f_oldest])), (h_now, .inr (3, [.ref h_now_cells])), (h_now_cells, .inl (cI, 400, .inl f_now_cells)), (h_copy, .inr (3, [.ref h_copy_cells])), (h_copy_cells, .inl (cI, 400, .inl u1))]) (x_runV (n0 := 0) (As := []) (rest := []) C0 (xc_X3_wrongSet l D cI cC cZ cL h_now h_now_cells H.size f_now_cells _ hk) gX4_ifFalse_X3_wrongSet rfl ⟨rfl, rfl⟩ (by decide +kernel) rfl ⟨by decide, by decide⟩ ⟨Nat.zero_le _, Nat.zero_le _⟩ hP hD [1, 2] rfl rfl (k := 1) rfl rfl rfl hl.1 rfl (Nat.le_of_ble_eq_true rfl) dX4_ifFalse_65) hP hD hS hA [1, 2] [0, 3, 4] [0, 3, 4, 1, 2] rfl rfl rfl (by decide) (fun _ => rfl) rfl (fun r2 u2 H locs hk hP hD hS => ?_)
  refine lv_aload_n hx hb dX4_ifFalse_68 rfl (lv_at hl 0 rfl) ?_
  refine va_get (D := D) (ci := 4) (v := .ref h_copy) (C := RX4) (T := TX4) (N := 9) hx hb hts xin_X4_ifFalse_X4 hown hK hP 0 rfl rfl 1 (by decide) (hts (.fieldLink RX4 16 "TakeLog" "copy" "LTakeLog$State;") (by decide +kernel)) (fun _ h9 => h9) rfl dX4_ifFalse_69 ?_
  refine x_joini (ws1 := fun (_ : Unit) => [(h, .inr (4, [.ref h_now, .ref h_copy, .ref h_past, .ref h_slots, .ref h_saved, .ref h_text, .ref h_shown, .int f_remembered, .int f_oldest])), (h_now, .inr (3, [.ref h_now_cells])), (h_now_cells, .inl (cI, 400, .inl f_now_cells)), (h_copy, .inr (3, [.ref h_copy_cells])), (h_copy_cells, .inl (cI, 400, .inl u1))]) (x_runV (n0 := 0) (As := []) (rest := [.int r2]) C0 (xc_X3_wrongSet l D cI cC cZ cL h_copy h_copy_cells H.size u1 _ hk) gX4_ifFalse_X3_wrongSet rfl ⟨rfl, rfl⟩ (by decide +kernel) rfl ⟨by decide, by decide⟩ ⟨Nat.zero_le _, Nat.zero_le _⟩ hP hD [3, 4] rfl rfl (k := 3) rfl rfl rfl hl.1 rfl (Nat.le_of_ble_eq_true rfl) dX4_ifFalse_72) hP hD hS hA [3, 4] [0, 1, 2] [0, 1, 2, 3, 4] rfl rfl rfl (by decide) (fun _ => rfl) rfl (fun r3 u3 H locs hk hP hD hS => ?_)
  refine lv_ixor hx hb dX4_ifFalse_75 ?_
  exact x_retiX C0 (u1) hk hP hD hS dX4_ifFalse_76
set_option maxHeartbeats 4000000 in
set_option maxRecDepth 100000 in
theorem xb_X4_ifFalse_0 {p : Program} {l : Launch} {e : Env} {s : State} {m : MethodId} {args : Array Value} {below : List Frame} {meth : Method} {c : Code} {A : Nat → Prop} {D : va_G} {cI cC cZ cL : ClassId} {sf : Nat → Nat} {tL tH : Nat} {h h_now h_copy h_past h_slots h_saved h_text h_shown h_now_cells h_copy_cells : Nat}  {f_remembered : Int32} {f_oldest : Int32} {f_now_cells : Nat → Int32} {K : Int32 → ((Nat → Int32)) → Prop} {KX : String → ((Nat → Int32)) → Prop}  (C0 : xC p s m args meth c cX4_ifFalse 2 (some .int) wsX4_ifFalse RX4 D (xTY cI cC cZ cL)) (hA : ∀ q : Nat, s.heap.size ≤ q → A q) (T0 : xT sf tL tH A s s.heap) (hl0 : l.stackTraces = false) (hne : ∀ x ∈ c.exceptionTable.toList, False)  : ∀ (f_copy_cells : Nat → Int32) (x1 : Int32) , xp_X4_ifFalse f_now_cells f_copy_cells x1 K KX → ∀ (H : Heap) (locs : List Loc) (ls : Array Slot), va_P D vwCl [(h, .inr (4, [.ref h_now, .ref h_copy, .ref h_past, .ref h_slots, .ref h_saved, .ref h_text, .ref h_shown, .int f_remembered, .int f_oldest])), (h_now, .inr (3, [.ref h_now_cells])), (h_now_cells, .inl (cI, 400, .inl f_now_cells)), (h_copy, .inr (3, [.ref h_copy_cells])), (h_copy_cells, .inl (cI, 400, .inl f_copy_cells))] H → va_D A [(h, .inr (4, [.ref h_now, .ref h_copy, .ref h_past, .ref h_slots, .ref h_saved, .ref h_text, .ref h_shown, .int f_remembered, .int f_oldest])), (h_now, .inr (3, [.ref h_now_cells])), (h_now_cells, .inl (cI, 400, .inl f_now_cells)), (h_copy, .inr (3, [.ref h_copy_cells])), (h_copy_cells, .inl (cI, 400, .inl f_copy_cells))] → va_S A s.heap H locs → lv_has ls 2 [(0, .ref h), (1, .int x1)] → W p l e ({ frames := 6, cells := 1, slots := 6, locals := 112 } : Room) s m args below meth c H locs 0 0 (vx_MQ below (va_Qi (fun (r : Int32) (u : (Nat → Int32)) => K r u) (fun u t => xE D A ((fun (u : (Nat → Int32)) => [(h, .inr (4, [.ref h_now, .ref h_copy, .ref h_past, .ref h_slots, .ref h_saved, .ref h_text, .ref h_shown, .int f_remembered, .int f_oldest])), (h_now, .inr (3, [.ref h_now_cells])), (h_now_cells, .inl (cI, 400, .inl f_now_cells)), (h_copy, .inr (3, [.ref h_copy_cells])), (h_copy_cells, .inl (cI, 400, .inl u))]) u) t) A) (vx_X (fun (_ : (Nat → Int32)) => True) (fun E u t => ((fun (E : String) (u : (Nat → Int32)) => KX E u) E u) ∧ xE D A ((fun (u : (Nat → Int32)) => [(h, .inr (4, [.ref h_now, .ref h_copy, .ref h_past, .ref h_slots, .ref h_saved, .ref h_text, .ref h_shown, .int f_remembered, .int f_oldest])), (h_now, .inr (3, [.ref h_now_cells])), (h_now_cells, .inl (cI, 400, .inl f_now_cells)), (h_copy, .inr (3, [.ref h_copy_cells])), (h_copy_cells, .inl (cI, 400, .inl u))]) u) t) A) args s 1 6 A) (F0 m 0 ls []) := by
  obtain ⟨hx, hb, hr, hml, hown, hts, hlocks, hK, hN⟩ := id C0
  intro f_copy_cells x1 hk H locs ls hP hD hS hl
  rw [xp_X4_ifFalse] at hk
  refine lv_aload_n hx hb dX4_ifFalse_0 rfl (lv_at hl 0 rfl) ?_
  refine va_get (D := D) (ci := 4) (v := .ref h_now) (C := RX4) (T := TX4) (N := 9) hx hb hts xin_X4_ifFalse_X4 hown hK hP 0 rfl rfl 0 (by decide) (hts (.fieldLink RX4 12 "TakeLog" "now" "LTakeLog$State;") (by decide +kernel)) (fun _ h9 => h9) rfl dX4_ifFalse_1 ?_
  refine lv_iload_n hx hb dX4_ifFalse_4 rfl (lv_at hl 1 rfl) ?_
  refine x_joini (ws1 := fun (_ : Unit) => [(h, .inr (4, [.ref h_now, .ref h_copy, .ref h_past, .ref h_slots, .ref h_saved, .ref h_text, .ref h_shown, .int f_remembered, .int f_oldest])), (h_now, .inr (3, [.ref h_now_cells])), (h_now_cells, .inl (cI, 400, .inl f_now_cells)), (h_copy, .inr (3, [.ref h_copy_cells])), (h_copy_cells, .inl (cI, 400, .inl f_copy_cells))]) (x_runV (n0 := 1) (As := [.int x1]) (rest := []) C0 (xc_X3_hasTake l D cI cC cZ cL h_now h_now_cells H.size f_now_cells x1 _ hk) gX4_ifFalse_X3_hasTake rfl ⟨rfl, rfl⟩ (by decide +kernel) rfl ⟨by decide, by decide⟩ ⟨Nat.zero_le _, Nat.zero_le _⟩ hP hD [1, 2] rfl rfl (k := 1) rfl rfl rfl hl.1 rfl (Nat.le_of_ble_eq_true rfl) dX4_ifFalse_5) hP hD hS hA [1, 2] [0, 3, 4] [0, 3, 4, 1, 2] rfl rfl rfl (by decide) (fun _ => rfl) rfl (fun r1 u1 H locs hk hP hD hS => ?_)
  refine lv_if_ne (tgt := 21) hx hb dX4_ifFalse_8 (by decide) (fun c2 => ?_) (fun c2 => ?_)
  · have hk := hk.1 c2
    refine lv_aload_n hx hb dX4_ifFalse_21 rfl (lv_at hl 0 rfl) ?_
    refine va_get (D := D) (ci := 4) (v := .ref h_copy) (C := RX4) (T := TX4) (N := 9) hx hb hts xin_X4_ifFalse_X4 hown hK hP 0 rfl rfl 1 (by decide) (hts (.fieldLink RX4 16 "TakeLog" "copy" "LTakeLog$State;") (by decide +kernel)) (fun _ h9 => h9) rfl dX4_ifFalse_22 ?_
    refine lv_aload_n hx hb dX4_ifFalse_25 rfl (lv_at hl 0 rfl) ?_
    refine va_get (D := D) (ci := 4) (v := .ref h_now) (C := RX4) (T := TX4) (N := 9) hx hb hts xin_X4_ifFalse_X4 hown hK hP 0 rfl rfl 0 (by decide) (hts (.fieldLink RX4 12 "TakeLog" "now" "LTakeLog$State;") (by decide +kernel)) (fun _ h9 => h9) rfl dX4_ifFalse_26 ?_
    refine x_joinv (ws1 := fun (u3 : (Nat → Int32)) => [(h, .inr (4, [.ref h_now, .ref h_copy, .ref h_past, .ref h_slots, .ref h_saved, .ref h_text, .ref h_shown, .int f_remembered, .int f_oldest])), (h_now, .inr (3, [.ref h_now_cells])), (h_now_cells, .inl (cI, 400, .inl f_now_cells)), (h_copy, .inr (3, [.ref h_copy_cells])), (h_copy_cells, .inl (cI, 400, .inl u3))]) (x_runV (n0 := 1) (As := [.ref h_now]) (rest := []) C0 (xc_X3_copyFrom l D cI cC cZ cL h_copy h_copy_cells h_now h_now_cells H.size f_copy_cells f_now_cells _ hk) gX4_ifFalse_X3_copyFrom rfl ⟨rfl, rfl⟩ (by decide +kernel) rfl ⟨by decide, by decide⟩ ⟨Nat.zero_le _, Nat.zero_le _⟩ hP hD [3, 4, 1, 2] rfl rfl (k := 3) rfl rfl rfl hl.1 rfl (Nat.le_of_ble_eq_true rfl) dX4_ifFalse_29) hP hD hS hA [3, 4, 1, 2] [0] [0, 3, 4, 1, 2] rfl rfl rfl (by decide) (fun _ => rfl) rfl (fun u3 H locs hk hP hD hS => ?_)
    refine lv_aload_n hx hb dX4_ifFalse_32 rfl (lv_at hl 0 rfl) ?_
    refine va_get (D := D) (ci := 4) (v := .ref h_copy) (C := RX4) (T := TX4) (N := 9) hx hb hts xin_X4_ifFalse_X4 hown hK hP 0 rfl rfl 1 (by decide) (hts (.fieldLink RX4 16 "TakeLog" "copy" "LTakeLog$State;") (by decide +kernel)) (fun _ h9 => h9) rfl dX4_ifFalse_33 ?_
    refine lv_iload_n hx hb dX4_ifFalse_36 rfl (lv_at hl 1 rfl) ?_
    refine lv_bipush (v := 15) hx hb dX4_ifFalse_37 (by decide) ?_
    refine lv_aload_n hx hb dX4_ifFalse_39 rfl (lv_at hl 0 rfl) ?_
    refine va_get (D := D) (ci := 4) (v := .ref h_now) (C := RX4) (T := TX4) (N := 9) hx hb hts xin_X4_ifFalse_X4 hown hK hP 0 rfl rfl 0 (by decide) (hts (.fieldLink RX4 12 "TakeLog" "now" "LTakeLog$State;") (by decide +kernel)) (fun _ h9 => h9) rfl dX4_ifFalse_40 ?_
    refine lv_iload_n hx hb dX4_ifFalse_43 rfl (lv_at hl 1 rfl) ?_
    refine lv_bipush (v := 15) hx hb dX4_ifFalse_44 (by decide) ?_
    refine x_joini (ws1 := fun (_ : Unit) => [(h, .inr (4, [.ref h_now, .ref h_copy, .ref h_past, .ref h_slots, .ref h_saved, .ref h_text, .ref h_shown, .int f_remembered, .int f_oldest])), (h_now, .inr (3, [.ref h_now_cells])), (h_now_cells, .inl (cI, 400, .inl f_now_cells)), (h_copy, .inr (3, [.ref h_copy_cells])), (h_copy_cells, .inl (cI, 400, .inl u3))]) (x_runV (n0 := 2) (As := [.int x1, .int 15]) (rest := [.int 15, .int x1, .ref h_copy]) C0 (xc_X3_of l D cI cC cZ cL h_now h_now_cells H.size f_now_cells x1 15 _ hk) gX4_ifFalse_X3_of rfl ⟨rfl, rfl⟩ (by decide +kernel) rfl ⟨by decide, by decide⟩ ⟨Nat.zero_le _, Nat.zero_le _⟩ hP hD [1, 2] rfl rfl (k := 1) rfl rfl rfl hl.1 rfl (Nat.le_of_ble_eq_true rfl) dX4_ifFalse_46) hP hD hS hA [1, 2] [0, 3, 4] [0, 3, 4, 1, 2] rfl rfl rfl (by decide) (fun _ => rfl) rfl (fun r4 u4 H locs hk hP hD hS => ?_)
    refine lv_if_ne (tgt := 56) hx hb dX4_ifFalse_49 (by decide) (fun c5 => ?_) (fun c5 => ?_)
    · have hk := hk.1 c5
      refine lv_iconst (v := 0) hx hb dX4_ifFalse_56 (by decide) ?_
      exact xb_X4_ifFalse_57 C0 hA T0 hl0 hne  _ _ _ hk H locs ls hP hD hS (lv_sub hl [0] rfl)
    · have hk := hk.2 c5
      refine lv_iconst (v := 1) hx hb dX4_ifFalse_52 (by decide) ?_
      refine lv_goto (tgt := 57) hx hb dX4_ifFalse_53 (by decide) ?_
      exact xb_X4_ifFalse_57 C0 hA T0 hl0 hne  _ _ _ hk H locs ls hP hD hS (lv_sub hl [0] rfl)
  · have hk := hk.2 c2
    exact x_thr (text := "there is no such take") C0 T0 hl0 hne (f_copy_cells) hk hP hD hS hl.1 (by decide +kernel) (by decide +kernel) (by decide +kernel) xw_X4_ifFalse_IO x_ngIO x_otIO (by decide +kernel) (by decide) (Nat.le_of_ble_eq_true rfl) (by decide) (by decide) dX4_ifFalse_11 dX4_ifFalse_14 dX4_ifFalse_15 dX4_ifFalse_17 dX4_ifFalse_20
theorem xc_X4_ifFalse (l : Launch) (hl0 : l.stackTraces = false) (D : va_G) (cI cC cZ cL : ClassId) (sf : Nat → Nat) (tL tH : Nat) (h h_now h_copy h_past h_slots h_saved h_text h_shown h_now_cells h_copy_cells : Nat)  (sz : Nat) (f_remembered : Int32) (f_oldest : Int32) (f_now_cells : Nat → Int32) (f_copy_cells : Nat → Int32) (x1 : Int32) (K : Int32 → ((Nat → Int32)) → Prop) (KX : String → ((Nat → Int32)) → Prop) (hk : xp_X4_ifFalse f_now_cells f_copy_cells x1 K KX) : XMx l yX4_ifFalse wsX4_ifFalse ({ frames := 6, cells := 1, slots := 6, locals := 112 } : Room) D (xTY cI cC cZ cL) sf tL tH [.ref h, .int x1] [(h, .inr (4, [.ref h_now, .ref h_copy, .ref h_past, .ref h_slots, .ref h_saved, .ref h_text, .ref h_shown, .int f_remembered, .int f_oldest])), (h_now, .inr (3, [.ref h_now_cells])), (h_now_cells, .inl (cI, 400, .inl f_now_cells)), (h_copy, .inr (3, [.ref h_copy_cells])), (h_copy_cells, .inl (cI, 400, .inl f_copy_cells))] sz (fun (r : Int32) (u : (Nat → Int32)) => K r u) (fun (E : String) (u : (Nat → Int32)) => KX E u) (fun (u : (Nat → Int32)) => [(h, .inr (4, [.ref h_now, .ref h_copy, .ref h_past, .ref h_slots, .ref h_saved, .ref h_text, .ref h_shown, .int f_remembered, .int f_oldest])), (h_now, .inr (3, [.ref h_now_cells])), (h_now_cells, .inl (cI, 400, .inl f_now_cells)), (h_copy, .inr (3, [.ref h_copy_cells])), (h_copy_cells, .inl (cI, 400, .inl u))]) :=
  x_enterX (cc := cX4_ifFalse) (maxL := 2) (ret := (some .int)) (own := RX4) (by decide) rfl rfl (Nat.le_of_ble_eq_true rfl) (fun p e s m below meth c ls C0 T0 hne hA hP hD hS hl => xb_X4_ifFalse_0 C0 hA T0 hl0 hne _ _ hk s.heap [] ls hP hD hS hl)
set_option maxRecDepth 20000 in
theorem xw_X4_scene_IA : ∀ w ∈ (vx_atS RX4 53 xIA xNm).filter goodWord, w ∈ wsX4_scene := by decide +kernel
set_option maxRecDepth 20000 in
theorem xin_X4_scene_X4 : ∀ w ∈ u_ws RX4 TX4 9, w ∈ wsX4_scene := by decide +kernel
set_option maxRecDepth 20000 in
theorem xin_X4_scene_X3 : ∀ w ∈ u_ws RX3 TX3 1, w ∈ wsX4_scene := by decide +kernel
set_option maxHeartbeats 4000000 in
set_option maxRecDepth 100000 in
theorem xb_X4_scene_9 {p : Program} {l : Launch} {e : Env} {s : State} {m : MethodId} {args : Array Value} {below : List Frame} {meth : Method} {c : Code} {A : Nat → Prop} {D : va_G} {cI cC cZ cL : ClassId} {sf : Nat → Nat} {tL tH : Nat} {h h_now h_copy h_past h_slots h_saved h_text h_shown h_now_cells : Nat}  {f_remembered : Int32} {f_oldest : Int32} {f_now_cells : Nat → Int32} {K : Int32 → Prop} {KX : String → Prop}  (C0 : xC p s m args meth c cX4_scene 3 (some .int) wsX4_scene RX4 D (xTY cI cC cZ cL)) (hA : ∀ q : Nat, s.heap.size ≤ q → A q) (T0 : xT sf tL tH A s s.heap) (hl0 : l.stackTraces = false) (hne : ∀ x ∈ c.exceptionTable.toList, False)  : xp_X4_scene_9 f_now_cells K KX  → ∀ (H : Heap) (locs : List Loc) (ls : Array Slot), va_P D vwCl [(h, .inr (4, [.ref h_now, .ref h_copy, .ref h_past, .ref h_slots, .ref h_saved, .ref h_text, .ref h_shown, .int f_remembered, .int f_oldest])), (h_now, .inr (3, [.ref h_now_cells])), (h_now_cells, .inl (cI, 400, .inl f_now_cells))] H → va_D A [(h, .inr (4, [.ref h_now, .ref h_copy, .ref h_past, .ref h_slots, .ref h_saved, .ref h_text, .ref h_shown, .int f_remembered, .int f_oldest])), (h_now, .inr (3, [.ref h_now_cells])), (h_now_cells, .inl (cI, 400, .inl f_now_cells))] → va_S A s.heap H locs → lv_has ls 3 [] → W p l e ({ frames := 6, cells := 1, slots := 6, locals := 92 } : Room) s m args below meth c H locs 0 0 (vx_MQ below (va_Qi (fun (r : Int32) (_ : Unit) => K r) (fun u t => xE D A ((fun (_ : Unit) => [(h, .inr (4, [.ref h_now, .ref h_copy, .ref h_past, .ref h_slots, .ref h_saved, .ref h_text, .ref h_shown, .int f_remembered, .int f_oldest])), (h_now, .inr (3, [.ref h_now_cells])), (h_now_cells, .inl (cI, 400, .inl f_now_cells))]) u) t) A) (vx_X (fun (_ : Unit) => True) (fun E u t => ((fun (E : String) (_ : Unit) => KX E) E u) ∧ xE D A ((fun (_ : Unit) => [(h, .inr (4, [.ref h_now, .ref h_copy, .ref h_past, .ref h_slots, .ref h_saved, .ref h_text, .ref h_shown, .int f_remembered, .int f_oldest])), (h_now, .inr (3, [.ref h_now_cells])), (h_now_cells, .inl (cI, 400, .inl f_now_cells))]) u) t) A) args s 1 6 A) (F0 m 9 ls []) := by
  obtain ⟨hx, hb, hr, hml, hown, hts, hlocks, hK, hN⟩ := id C0
  intro  hk H locs ls hP hD hS hl
  rw [xp_X4_scene_9] at hk
  exact x_thr (text := "what is not 0 to 4") C0 T0 hl0 hne () hk hP hD hS hl.1 (by decide +kernel) (by decide +kernel) (by decide +kernel) xw_X4_scene_IA x_ngIA x_otIA (by decide +kernel) (by decide) (Nat.le_of_ble_eq_true rfl) (by decide) (by decide) dX4_scene_9 dX4_scene_12 dX4_scene_13 dX4_scene_15 dX4_scene_18
set_option maxHeartbeats 4000000 in
set_option maxRecDepth 100000 in
theorem xb_X4_scene_0 {p : Program} {l : Launch} {e : Env} {s : State} {m : MethodId} {args : Array Value} {below : List Frame} {meth : Method} {c : Code} {A : Nat → Prop} {D : va_G} {cI cC cZ cL : ClassId} {sf : Nat → Nat} {tL tH : Nat} {h h_now h_copy h_past h_slots h_saved h_text h_shown h_now_cells : Nat}  {f_remembered : Int32} {f_oldest : Int32} {f_now_cells : Nat → Int32} {K : Int32 → Prop} {KX : String → Prop}  (C0 : xC p s m args meth c cX4_scene 3 (some .int) wsX4_scene RX4 D (xTY cI cC cZ cL)) (hA : ∀ q : Nat, s.heap.size ≤ q → A q) (T0 : xT sf tL tH A s s.heap) (hl0 : l.stackTraces = false) (hne : ∀ x ∈ c.exceptionTable.toList, False)  : ∀ (x1 : Int32) (x2 : Int32) , xp_X4_scene f_now_cells x1 x2 K KX → ∀ (H : Heap) (locs : List Loc) (ls : Array Slot), va_P D vwCl [(h, .inr (4, [.ref h_now, .ref h_copy, .ref h_past, .ref h_slots, .ref h_saved, .ref h_text, .ref h_shown, .int f_remembered, .int f_oldest])), (h_now, .inr (3, [.ref h_now_cells])), (h_now_cells, .inl (cI, 400, .inl f_now_cells))] H → va_D A [(h, .inr (4, [.ref h_now, .ref h_copy, .ref h_past, .ref h_slots, .ref h_saved, .ref h_text, .ref h_shown, .int f_remembered, .int f_oldest])), (h_now, .inr (3, [.ref h_now_cells])), (h_now_cells, .inl (cI, 400, .inl f_now_cells))] → va_S A s.heap H locs → lv_has ls 3 [(0, .ref h), (1, .int x1), (2, .int x2)] → W p l e ({ frames := 6, cells := 1, slots := 6, locals := 92 } : Room) s m args below meth c H locs 0 0 (vx_MQ below (va_Qi (fun (r : Int32) (_ : Unit) => K r) (fun u t => xE D A ((fun (_ : Unit) => [(h, .inr (4, [.ref h_now, .ref h_copy, .ref h_past, .ref h_slots, .ref h_saved, .ref h_text, .ref h_shown, .int f_remembered, .int f_oldest])), (h_now, .inr (3, [.ref h_now_cells])), (h_now_cells, .inl (cI, 400, .inl f_now_cells))]) u) t) A) (vx_X (fun (_ : Unit) => True) (fun E u t => ((fun (E : String) (_ : Unit) => KX E) E u) ∧ xE D A ((fun (_ : Unit) => [(h, .inr (4, [.ref h_now, .ref h_copy, .ref h_past, .ref h_slots, .ref h_saved, .ref h_text, .ref h_shown, .int f_remembered, .int f_oldest])), (h_now, .inr (3, [.ref h_now_cells])), (h_now_cells, .inl (cI, 400, .inl f_now_cells))]) u) t) A) args s 1 6 A) (F0 m 0 ls []) := by
  obtain ⟨hx, hb, hr, hml, hown, hts, hlocks, hK, hN⟩ := id C0
  intro x1 x2 hk H locs ls hP hD hS hl
  rw [xp_X4_scene] at hk
  refine lv_iload_n hx hb dX4_scene_0 rfl (lv_at hl 2 rfl) ?_
  refine lv_if_lt (tgt := 9) hx hb dX4_scene_1 (by decide) (fun c1 => ?_) (fun c1 => ?_)
  · have hk := hk.1 c1
    exact xb_X4_scene_9 C0 hA T0 hl0 hne   hk H locs ls hP hD hS (lv_sub hl [] rfl)
  · have hk := hk.2 c1
    refine lv_iload_n hx hb dX4_scene_4 rfl (lv_at hl 2 rfl) ?_
    refine lv_iconst (v := 4) hx hb dX4_scene_5 (by decide) ?_
    refine lv_icmp_le (tgt := 19) hx hb dX4_scene_6 (by decide) (fun c2 => ?_) (fun c2 => ?_)
    · have hk := hk.1 c2
      refine lv_aload_n hx hb dX4_scene_19 rfl (lv_at hl 0 rfl) ?_
      refine va_get (D := D) (ci := 4) (v := .ref h_now) (C := RX4) (T := TX4) (N := 9) hx hb hts xin_X4_scene_X4 hown hK hP 0 rfl rfl 0 (by decide) (hts (.fieldLink RX4 12 "TakeLog" "now" "LTakeLog$State;") (by decide +kernel)) (fun _ h9 => h9) rfl dX4_scene_20 ?_
      refine lv_iload_n hx hb dX4_scene_23 rfl (lv_at hl 1 rfl) ?_
      refine lv_iload_n hx hb dX4_scene_24 rfl (lv_at hl 2 rfl) ?_
      refine x_joini (ws1 := fun (_ : Unit) => [(h, .inr (4, [.ref h_now, .ref h_copy, .ref h_past, .ref h_slots, .ref h_saved, .ref h_text, .ref h_shown, .int f_remembered, .int f_oldest])), (h_now, .inr (3, [.ref h_now_cells])), (h_now_cells, .inl (cI, 400, .inl f_now_cells))]) (x_runV (n0 := 2) (As := [.int x1, .int x2]) (rest := []) C0 (xc_X3_ofScene l D cI cC cZ cL h_now h_now_cells H.size f_now_cells x1 x2 _ hk) gX4_scene_X3_ofScene rfl ⟨rfl, rfl⟩ (by decide +kernel) rfl ⟨by decide, by decide⟩ ⟨Nat.zero_le _, Nat.zero_le _⟩ hP hD [1, 2] rfl rfl (k := 1) rfl rfl rfl hl.1 rfl (Nat.le_of_ble_eq_true rfl) dX4_scene_25) hP hD hS hA [1, 2] [0] [0, 1, 2] rfl rfl rfl (by decide) (fun _ => rfl) rfl (fun r3 u3 H locs hk hP hD hS => ?_)
      exact x_retiX C0 () hk hP hD hS dX4_scene_28
    · have hk := hk.2 c2
      exact xb_X4_scene_9 C0 hA T0 hl0 hne   hk H locs ls hP hD hS (lv_sub hl [] rfl)
theorem xc_X4_scene (l : Launch) (hl0 : l.stackTraces = false) (D : va_G) (cI cC cZ cL : ClassId) (sf : Nat → Nat) (tL tH : Nat) (h h_now h_copy h_past h_slots h_saved h_text h_shown h_now_cells : Nat)  (sz : Nat) (f_remembered : Int32) (f_oldest : Int32) (f_now_cells : Nat → Int32) (x1 : Int32) (x2 : Int32) (K : Int32 → Prop) (KX : String → Prop) (hk : xp_X4_scene f_now_cells x1 x2 K KX) : XMx l yX4_scene wsX4_scene ({ frames := 6, cells := 1, slots := 6, locals := 92 } : Room) D (xTY cI cC cZ cL) sf tL tH [.ref h, .int x1, .int x2] [(h, .inr (4, [.ref h_now, .ref h_copy, .ref h_past, .ref h_slots, .ref h_saved, .ref h_text, .ref h_shown, .int f_remembered, .int f_oldest])), (h_now, .inr (3, [.ref h_now_cells])), (h_now_cells, .inl (cI, 400, .inl f_now_cells))] sz (fun (r : Int32) (_ : Unit) => K r) (fun (E : String) (_ : Unit) => KX E) (fun (_ : Unit) => [(h, .inr (4, [.ref h_now, .ref h_copy, .ref h_past, .ref h_slots, .ref h_saved, .ref h_text, .ref h_shown, .int f_remembered, .int f_oldest])), (h_now, .inr (3, [.ref h_now_cells])), (h_now_cells, .inl (cI, 400, .inl f_now_cells))]) :=
  x_enterX (cc := cX4_scene) (maxL := 3) (ret := (some .int)) (own := RX4) (by decide) rfl rfl (Nat.le_of_ble_eq_true rfl) (fun p e s m below meth c ls C0 T0 hne hA hP hD hS hl => xb_X4_scene_0 C0 hA T0 hl0 hne _ _ hk s.heap [] ls hP hD hS hl)
set_option maxRecDepth 20000 in
theorem xw_X4_runScript_IA : ∀ w ∈ (vx_atS RX4 53 xIA xNm).filter goodWord, w ∈ wsX4_runScript := by decide +kernel
set_option maxRecDepth 20000 in
theorem xin_X4_runScript_X4 : ∀ w ∈ u_ws RX4 TX4 9, w ∈ wsX4_runScript := by decide +kernel
set_option maxRecDepth 20000 in
theorem xin_X4_runScript_X3 : ∀ w ∈ u_ws RX3 TX3 1, w ∈ wsX4_runScript := by decide +kernel
set_option maxHeartbeats 4000000 in
set_option maxRecDepth 100000 in
theorem xb_X4_runScript_10 {p : Program} {l : Launch} {e : Env} {s : State} {m : MethodId} {args : Array Value} {below : List Frame} {meth : Method} {c : Code} {A : Nat → Prop} {D : va_G} {cI cC cZ cL : ClassId} {sf : Nat → Nat} {tL tH : Nat} {h h_now h_copy h_past h_slots h_saved h_text h_shown h_now_cells h_copy_cells : Nat}  {f_remembered : Int32} {f_oldest : Int32} {f_now_cells : Nat → Int32} {K : Int32 → ((Nat → Int32)) → Prop} {KX : String → ((Nat → Int32)) → Prop}  (C0 : xC p s m args meth c cX4_runScript 5 (some .int) wsX4_runScript RX4 D (xTY cI cC cZ cL)) (hA : ∀ q : Nat, s.heap.size ≤ q → A q) (T0 : xT sf tL tH A s s.heap) (hl0 : l.stackTraces = false) (hne : ∀ x ∈ c.exceptionTable.toList, False)  : ∀ (f_copy_cells : Nat → Int32) , xp_X4_runScript_10 f_now_cells K KX f_copy_cells → ∀ (H : Heap) (locs : List Loc) (ls : Array Slot), va_P D vwCl [(h, .inr (4, [.ref h_now, .ref h_copy, .ref h_past, .ref h_slots, .ref h_saved, .ref h_text, .ref h_shown, .int f_remembered, .int f_oldest])), (h_now, .inr (3, [.ref h_now_cells])), (h_now_cells, .inl (cI, 400, .inl f_now_cells)), (h_copy, .inr (3, [.ref h_copy_cells])), (h_copy_cells, .inl (cI, 400, .inl f_copy_cells))] H → va_D A [(h, .inr (4, [.ref h_now, .ref h_copy, .ref h_past, .ref h_slots, .ref h_saved, .ref h_text, .ref h_shown, .int f_remembered, .int f_oldest])), (h_now, .inr (3, [.ref h_now_cells])), (h_now_cells, .inl (cI, 400, .inl f_now_cells)), (h_copy, .inr (3, [.ref h_copy_cells])), (h_copy_cells, .inl (cI, 400, .inl f_copy_cells))] → va_S A s.heap H locs → lv_has ls 5 [] → W p l e ({ frames := 7, cells := 1, slots := 6, locals := 156 } : Room) s m args below meth c H locs 0 0 (vx_MQ below (va_Qi (fun (r : Int32) (u : (Nat → Int32)) => K r u) (fun u t => xE D A ((fun (u : (Nat → Int32)) => [(h, .inr (4, [.ref h_now, .ref h_copy, .ref h_past, .ref h_slots, .ref h_saved, .ref h_text, .ref h_shown, .int f_remembered, .int f_oldest])), (h_now, .inr (3, [.ref h_now_cells])), (h_now_cells, .inl (cI, 400, .inl f_now_cells)), (h_copy, .inr (3, [.ref h_copy_cells])), (h_copy_cells, .inl (cI, 400, .inl u))]) u) t) A) (vx_X (fun (_ : (Nat → Int32)) => True) (fun E u t => ((fun (E : String) (u : (Nat → Int32)) => KX E u) E u) ∧ xE D A ((fun (u : (Nat → Int32)) => [(h, .inr (4, [.ref h_now, .ref h_copy, .ref h_past, .ref h_slots, .ref h_saved, .ref h_text, .ref h_shown, .int f_remembered, .int f_oldest])), (h_now, .inr (3, [.ref h_now_cells])), (h_now_cells, .inl (cI, 400, .inl f_now_cells)), (h_copy, .inr (3, [.ref h_copy_cells])), (h_copy_cells, .inl (cI, 400, .inl u))]) u) t) A) args s 1 6 A) (F0 m 10 ls []) := by
  obtain ⟨hx, hb, hr, hml, hown, hts, hlocks, hK, hN⟩ := id C0
  intro f_copy_cells hk H locs ls hP hD hS hl
  rw [xp_X4_runScript_10] at hk
  exact x_thrW (text := "the commands are not 1 to 3") C0 T0 hl0 hne (f_copy_cells) hk hP hD hS hl.1 (by decide +kernel) (by decide +kernel) (by decide +kernel) xw_X4_runScript_IA x_ngIA x_otIA (by decide +kernel) (by decide) (Nat.le_of_ble_eq_true rfl) (by decide) (by decide) dX4_runScript_10 dX4_runScript_13 dX4_runScript_14 dX4_runScript_17 dX4_runScript_20
set_option maxHeartbeats 4000000 in
set_option maxRecDepth 100000 in
theorem xb_X4_runScript_37 {p : Program} {l : Launch} {e : Env} {s : State} {m : MethodId} {args : Array Value} {below : List Frame} {meth : Method} {c : Code} {A : Nat → Prop} {D : va_G} {cI cC cZ cL : ClassId} {sf : Nat → Nat} {tL tH : Nat} {h h_now h_copy h_past h_slots h_saved h_text h_shown h_now_cells h_copy_cells : Nat}  {f_remembered : Int32} {f_oldest : Int32} {f_now_cells : Nat → Int32} {K : Int32 → ((Nat → Int32)) → Prop} {KX : String → ((Nat → Int32)) → Prop}  (C0 : xC p s m args meth c cX4_runScript 5 (some .int) wsX4_runScript RX4 D (xTY cI cC cZ cL)) (hA : ∀ q : Nat, s.heap.size ≤ q → A q) (T0 : xT sf tL tH A s s.heap) (hl0 : l.stackTraces = false) (hne : ∀ x ∈ c.exceptionTable.toList, False)  : ∀ (f_copy_cells : Nat → Int32) , xp_X4_runScript_37 f_now_cells K KX f_copy_cells → ∀ (H : Heap) (locs : List Loc) (ls : Array Slot), va_P D vwCl [(h, .inr (4, [.ref h_now, .ref h_copy, .ref h_past, .ref h_slots, .ref h_saved, .ref h_text, .ref h_shown, .int f_remembered, .int f_oldest])), (h_now, .inr (3, [.ref h_now_cells])), (h_now_cells, .inl (cI, 400, .inl f_now_cells)), (h_copy, .inr (3, [.ref h_copy_cells])), (h_copy_cells, .inl (cI, 400, .inl f_copy_cells))] H → va_D A [(h, .inr (4, [.ref h_now, .ref h_copy, .ref h_past, .ref h_slots, .ref h_saved, .ref h_text, .ref h_shown, .int f_remembered, .int f_oldest])), (h_now, .inr (3, [.ref h_now_cells])), (h_now_cells, .inl (cI, 400, .inl f_now_cells)), (h_copy, .inr (3, [.ref h_copy_cells])), (h_copy_cells, .inl (cI, 400, .inl f_copy_cells))] → va_S A s.heap H locs → lv_has ls 5 [] → W p l e ({ frames := 7, cells := 1, slots := 6, locals := 156 } : Room) s m args below meth c H locs 0 0 (vx_MQ below (va_Qi (fun (r : Int32) (u : (Nat → Int32)) => K r u) (fun u t => xE D A ((fun (u : (Nat → Int32)) => [(h, .inr (4, [.ref h_now, .ref h_copy, .ref h_past, .ref h_slots, .ref h_saved, .ref h_text, .ref h_shown, .int f_remembered, .int f_oldest])), (h_now, .inr (3, [.ref h_now_cells])), (h_now_cells, .inl (cI, 400, .inl f_now_cells)), (h_copy, .inr (3, [.ref h_copy_cells])), (h_copy_cells, .inl (cI, 400, .inl u))]) u) t) A) (vx_X (fun (_ : (Nat → Int32)) => True) (fun E u t => ((fun (E : String) (u : (Nat → Int32)) => KX E u) E u) ∧ xE D A ((fun (u : (Nat → Int32)) => [(h, .inr (4, [.ref h_now, .ref h_copy, .ref h_past, .ref h_slots, .ref h_saved, .ref h_text, .ref h_shown, .int f_remembered, .int f_oldest])), (h_now, .inr (3, [.ref h_now_cells])), (h_now_cells, .inl (cI, 400, .inl f_now_cells)), (h_copy, .inr (3, [.ref h_copy_cells])), (h_copy_cells, .inl (cI, 400, .inl u))]) u) t) A) args s 1 6 A) (F0 m 37 ls []) := by
  obtain ⟨hx, hb, hr, hml, hown, hts, hlocks, hK, hN⟩ := id C0
  intro f_copy_cells hk H locs ls hP hD hS hl
  rw [xp_X4_runScript_37] at hk
  exact x_thrW (text := "the script is negative or too long") C0 T0 hl0 hne (f_copy_cells) hk hP hD hS hl.1 (by decide +kernel) (by decide +kernel) (by decide +kernel) xw_X4_runScript_IA x_ngIA x_otIA (by decide +kernel) (by decide) (Nat.le_of_ble_eq_true rfl) (by decide) (by decide) dX4_runScript_37 dX4_runScript_40 dX4_runScript_41 dX4_runScript_44 dX4_runScript_47
set_option maxHeartbeats 4000000 in
set_option maxRecDepth 100000 in
theorem xb_X4_runScript_62 {p : Program} {l : Launch} {e : Env} {s : State} {m : MethodId} {args : Array Value} {below : List Frame} {meth : Method} {c : Code} {A : Nat → Prop} {D : va_G} {cI cC cZ cL : ClassId} {sf : Nat → Nat} {tL tH : Nat} {h h_now h_copy h_past h_slots h_saved h_text h_shown h_now_cells h_copy_cells : Nat}  {f_remembered : Int32} {f_oldest : Int32} {f_now_cells : Nat → Int32} {K : Int32 → ((Nat → Int32)) → Prop} {KX : String → ((Nat → Int32)) → Prop}  (C0 : xC p s m args meth c cX4_runScript 5 (some .int) wsX4_runScript RX4 D (xTY cI cC cZ cL)) (hA : ∀ q : Nat, s.heap.size ≤ q → A q) (T0 : xT sf tL tH A s s.heap) (hl0 : l.stackTraces = false) (hne : ∀ x ∈ c.exceptionTable.toList, False)  : ∀ (n : Nat) (f_copy_cells : Nat → Int32) (v1 : Int32) (v2 : Int64) (v4 : Int32) , xp_X4_runScript_62 f_now_cells K KX n f_copy_cells v1 v2 v4 → ∀ (H : Heap) (locs : List Loc) (ls : Array Slot), va_P D vwCl [(h, .inr (4, [.ref h_now, .ref h_copy, .ref h_past, .ref h_slots, .ref h_saved, .ref h_text, .ref h_shown, .int f_remembered, .int f_oldest])), (h_now, .inr (3, [.ref h_now_cells])), (h_now_cells, .inl (cI, 400, .inl f_now_cells)), (h_copy, .inr (3, [.ref h_copy_cells])), (h_copy_cells, .inl (cI, 400, .inl f_copy_cells))] H → va_D A [(h, .inr (4, [.ref h_now, .ref h_copy, .ref h_past, .ref h_slots, .ref h_saved, .ref h_text, .ref h_shown, .int f_remembered, .int f_oldest])), (h_now, .inr (3, [.ref h_now_cells])), (h_now_cells, .inl (cI, 400, .inl f_now_cells)), (h_copy, .inr (3, [.ref h_copy_cells])), (h_copy_cells, .inl (cI, 400, .inl f_copy_cells))] → va_S A s.heap H locs → lv_has ls 5 [(0, .ref h), (1, .int v1), (2, .long v2), (4, .int v4)] → W p l e ({ frames := 7, cells := 1, slots := 6, locals := 156 } : Room) s m args below meth c H locs 0 0 (vx_MQ below (va_Qi (fun (r : Int32) (u : (Nat → Int32)) => K r u) (fun u t => xE D A ((fun (u : (Nat → Int32)) => [(h, .inr (4, [.ref h_now, .ref h_copy, .ref h_past, .ref h_slots, .ref h_saved, .ref h_text, .ref h_shown, .int f_remembered, .int f_oldest])), (h_now, .inr (3, [.ref h_now_cells])), (h_now_cells, .inl (cI, 400, .inl f_now_cells)), (h_copy, .inr (3, [.ref h_copy_cells])), (h_copy_cells, .inl (cI, 400, .inl u))]) u) t) A) (vx_X (fun (_ : (Nat → Int32)) => True) (fun E u t => ((fun (E : String) (u : (Nat → Int32)) => KX E u) E u) ∧ xE D A ((fun (u : (Nat → Int32)) => [(h, .inr (4, [.ref h_now, .ref h_copy, .ref h_past, .ref h_slots, .ref h_saved, .ref h_text, .ref h_shown, .int f_remembered, .int f_oldest])), (h_now, .inr (3, [.ref h_now_cells])), (h_now_cells, .inl (cI, 400, .inl f_now_cells)), (h_copy, .inr (3, [.ref h_copy_cells])), (h_copy_cells, .inl (cI, 400, .inl u))]) u) t) A) args s 1 6 A) (F0 m 62 ls []) := by
  obtain ⟨hx, hb, hr, hml, hown, hts, hlocks, hK, hN⟩ := id C0
  intro n
  induction n with
  | zero => intro f_copy_cells v1 v2 v4 hk; exact hk.elim
  | succ n ih =>
    intro f_copy_cells v1 v2 v4 hk H locs ls hP hD hS hl
    rw [xp_X4_runScript_62] at hk
    refine lv_iload hx hb dX4_runScript_62 (lv_at hl 3 rfl) ?_
    refine lv_iload_n hx hb dX4_runScript_64 rfl (lv_at hl 1 rfl) ?_
    refine lv_icmp_ge (tgt := 99) hx hb dX4_runScript_65 (by decide) (fun c1 => ?_) (fun c1 => ?_)
    · have hk := hk.1 c1
      refine lv_iconst (v := (-1 : Int32)) hx hb dX4_runScript_99 (by decide) ?_
      exact x_retiX C0 (f_copy_cells) hk hP hD hS dX4_runScript_100
    · have hk := hk.2 c1
      refine lv_aload_n hx hb dX4_runScript_68 rfl (lv_at hl 0 rfl) ?_
      refine lv_lload_n hx hb dX4_runScript_69 rfl (lv_at hl 2 rfl) ?_
      refine lv_iload_n hx hb dX4_runScript_70 rfl (lv_at hl 1 rfl) ?_
      refine lv_iconst (v := 1) hx hb dX4_runScript_71 (by decide) ?_
      refine lv_isub hx hb dX4_runScript_72 ?_
      refine lv_iload hx hb dX4_runScript_73 (lv_at hl 3 rfl) ?_
      refine lv_isub hx hb dX4_runScript_75 ?_
      refine x_joinl (ws1 := fun (_ : Unit) => [(h, .inr (4, [.ref h_now, .ref h_copy, .ref h_past, .ref h_slots, .ref h_saved, .ref h_text, .ref h_shown, .int f_remembered, .int f_oldest])), (h_now, .inr (3, [.ref h_now_cells])), (h_now_cells, .inl (cI, 400, .inl f_now_cells)), (h_copy, .inr (3, [.ref h_copy_cells])), (h_copy_cells, .inl (cI, 400, .inl f_copy_cells))]) (x_runO (n0 := 2) (As := [.long v2, .int ((v1 - 1) - v4)]) (rest := [.ref h]) C0 (xc_X4_withoutGroups l D cI cC cZ cL  H.size v2 ((v1 - 1) - v4) _ hk) gX4_runScript_X4_withoutGroups rfl ⟨rfl, rfl⟩ (by decide +kernel) rfl ⟨by decide, by decide⟩ ⟨Nat.zero_le _, Nat.zero_le _⟩ hP hD [] rfl rfl hl.1 rfl (Nat.le_of_ble_eq_true rfl) dX4_runScript_76) hP hD hS hA [] [0, 1, 2, 3, 4] [0, 1, 2, 3, 4] rfl rfl rfl (by decide) (fun _ => rfl) rfl (fun r2 u2 H locs hk hP hD hS => ?_)
      refine lv_ldc2 (own := RX4) hx hb hown (hts (.constantLong RX4 264 (100000)) (by decide +kernel)) dX4_runScript_79 ?_
      refine lv_lrem hx hb dX4_runScript_82 (by decide) ?_
      refine lv_l2i hx hb dX4_runScript_83 rfl ?_
      refine x_joini (ws1 := fun (u3 : (Nat → Int32)) => [(h, .inr (4, [.ref h_now, .ref h_copy, .ref h_past, .ref h_slots, .ref h_saved, .ref h_text, .ref h_shown, .int f_remembered, .int f_oldest])), (h_now, .inr (3, [.ref h_now_cells])), (h_now_cells, .inl (cI, 400, .inl f_now_cells)), (h_copy, .inr (3, [.ref h_copy_cells])), (h_copy_cells, .inl (cI, 400, .inl u3))]) (x_runV (n0 := 1) (As := [.int ((r2 - r2 / 100000 * 100000).toInt32)]) (rest := []) C0 (xc_X4_succeeds l D cI cC cZ cL h h_now h_copy h_past h_slots h_saved h_text h_shown h_copy_cells H.size f_remembered f_oldest f_copy_cells ((r2 - r2 / 100000 * 100000).toInt32) _ hk) gX4_runScript_X4_succeeds rfl ⟨rfl, rfl⟩ (by decide +kernel) rfl ⟨by decide, by decide⟩ ⟨Nat.zero_le _, Nat.zero_le _⟩ hP hD [0, 3, 4] rfl rfl (k := 0) rfl rfl rfl hl.1 rfl (Nat.le_of_ble_eq_true rfl) dX4_runScript_84) hP hD hS hA [0, 3, 4] [1, 2] [2, 0, 1, 3, 4] rfl rfl rfl (by decide) (fun _ => rfl) rfl (fun r3 u3 H locs hk hP hD hS => ?_)
      refine lv_if_ne (tgt := 93) hx hb dX4_runScript_87 (by decide) (fun c4 => ?_) (fun c4 => ?_)
      · have hk := hk.1 c4
        refine lv_iinc (v := (v4 + 1)) (lv' := [(4, .int (v4 + 1)), (0, .ref h), (1, .int v1), (2, .long v2)]) hx hb dX4_runScript_93 hl (k := 3) rfl rfl (by decide) rfl (fun ls hl => ?_)
        refine lv_goto (tgt := 62) hx hb dX4_runScript_96 (by decide) ?_
        exact ih _ _ _ _ hk H locs ls hP hD hS (lv_sub hl [1, 2, 3, 0] rfl)
      · have hk := hk.2 c4
        refine lv_iload hx hb dX4_runScript_90 (lv_at hl 3 rfl) ?_
        exact x_retiX C0 (u3) hk hP hD hS dX4_runScript_92
set_option maxHeartbeats 4000000 in
set_option maxRecDepth 100000 in
theorem xb_X4_runScript_0 {p : Program} {l : Launch} {e : Env} {s : State} {m : MethodId} {args : Array Value} {below : List Frame} {meth : Method} {c : Code} {A : Nat → Prop} {D : va_G} {cI cC cZ cL : ClassId} {sf : Nat → Nat} {tL tH : Nat} {h h_now h_copy h_past h_slots h_saved h_text h_shown h_now_cells h_copy_cells : Nat}  {f_remembered : Int32} {f_oldest : Int32} {f_now_cells : Nat → Int32} {K : Int32 → ((Nat → Int32)) → Prop} {KX : String → ((Nat → Int32)) → Prop}  (C0 : xC p s m args meth c cX4_runScript 5 (some .int) wsX4_runScript RX4 D (xTY cI cC cZ cL)) (hA : ∀ q : Nat, s.heap.size ≤ q → A q) (T0 : xT sf tL tH A s s.heap) (hl0 : l.stackTraces = false) (hne : ∀ x ∈ c.exceptionTable.toList, False)  : ∀ (f_copy_cells : Nat → Int32) (x1 : Int32) (x2 : Int64) , xp_X4_runScript f_now_cells f_copy_cells x1 x2 K KX → ∀ (H : Heap) (locs : List Loc) (ls : Array Slot), va_P D vwCl [(h, .inr (4, [.ref h_now, .ref h_copy, .ref h_past, .ref h_slots, .ref h_saved, .ref h_text, .ref h_shown, .int f_remembered, .int f_oldest])), (h_now, .inr (3, [.ref h_now_cells])), (h_now_cells, .inl (cI, 400, .inl f_now_cells)), (h_copy, .inr (3, [.ref h_copy_cells])), (h_copy_cells, .inl (cI, 400, .inl f_copy_cells))] H → va_D A [(h, .inr (4, [.ref h_now, .ref h_copy, .ref h_past, .ref h_slots, .ref h_saved, .ref h_text, .ref h_shown, .int f_remembered, .int f_oldest])), (h_now, .inr (3, [.ref h_now_cells])), (h_now_cells, .inl (cI, 400, .inl f_now_cells)), (h_copy, .inr (3, [.ref h_copy_cells])), (h_copy_cells, .inl (cI, 400, .inl f_copy_cells))] → va_S A s.heap H locs → lv_has ls 5 [(0, .ref h), (1, .int x1), (2, .long x2)] → W p l e ({ frames := 7, cells := 1, slots := 6, locals := 156 } : Room) s m args below meth c H locs 0 0 (vx_MQ below (va_Qi (fun (r : Int32) (u : (Nat → Int32)) => K r u) (fun u t => xE D A ((fun (u : (Nat → Int32)) => [(h, .inr (4, [.ref h_now, .ref h_copy, .ref h_past, .ref h_slots, .ref h_saved, .ref h_text, .ref h_shown, .int f_remembered, .int f_oldest])), (h_now, .inr (3, [.ref h_now_cells])), (h_now_cells, .inl (cI, 400, .inl f_now_cells)), (h_copy, .inr (3, [.ref h_copy_cells])), (h_copy_cells, .inl (cI, 400, .inl u))]) u) t) A) (vx_X (fun (_ : (Nat → Int32)) => True) (fun E u t => ((fun (E : String) (u : (Nat → Int32)) => KX E u) E u) ∧ xE D A ((fun (u : (Nat → Int32)) => [(h, .inr (4, [.ref h_now, .ref h_copy, .ref h_past, .ref h_slots, .ref h_saved, .ref h_text, .ref h_shown, .int f_remembered, .int f_oldest])), (h_now, .inr (3, [.ref h_now_cells])), (h_now_cells, .inl (cI, 400, .inl f_now_cells)), (h_copy, .inr (3, [.ref h_copy_cells])), (h_copy_cells, .inl (cI, 400, .inl u))]) u) t) A) args s 1 6 A) (F0 m 0 ls []) := by
  obtain ⟨hx, hb, hr, hml, hown, hts, hlocks, hK, hN⟩ := id C0
  intro f_copy_cells x1 x2 hk H locs ls hP hD hS hl
  rw [xp_X4_runScript] at hk
  refine lv_iload_n hx hb dX4_runScript_0 rfl (lv_at hl 1 rfl) ?_
  refine lv_iconst (v := 1) hx hb dX4_runScript_1 (by decide) ?_
  refine lv_icmp_lt (tgt := 10) hx hb dX4_runScript_2 (by decide) (fun c1 => ?_) (fun c1 => ?_)
  · have hk := hk.1 c1
    exact xb_X4_runScript_10 C0 hA T0 hl0 hne  _ hk H locs ls hP hD hS (lv_sub hl [] rfl)
  · have hk := hk.2 c1
    refine lv_iload_n hx hb dX4_runScript_5 rfl (lv_at hl 1 rfl) ?_
    refine lv_iconst (v := 3) hx hb dX4_runScript_6 (by decide) ?_
    refine lv_icmp_le (tgt := 21) hx hb dX4_runScript_7 (by decide) (fun c2 => ?_) (fun c2 => ?_)
    · have hk := hk.1 c2
      refine lv_lload_n hx hb dX4_runScript_21 rfl (lv_at hl 2 rfl) ?_
      refine lv_lconst (v := 0) hx hb dX4_runScript_22 (by decide) ?_
      refine W.lcmp hx hb dX4_runScript_23 ?_
      refine lv_if_lt (tgt := 37) hx hb dX4_runScript_24 (by decide) (fun c3 => ?_) (fun c3 => ?_)
      · have hk := hk.1 c3
        exact xb_X4_runScript_37 C0 hA T0 hl0 hne  _ hk H locs ls hP hD hS (lv_sub hl [] rfl)
      · have hk := hk.2 c3
        refine lv_lload_n hx hb dX4_runScript_27 rfl (lv_at hl 2 rfl) ?_
        refine lv_iload_n hx hb dX4_runScript_28 rfl (lv_at hl 1 rfl) ?_
        refine x_joinl (ws1 := fun (_ : Unit) => [(h, .inr (4, [.ref h_now, .ref h_copy, .ref h_past, .ref h_slots, .ref h_saved, .ref h_text, .ref h_shown, .int f_remembered, .int f_oldest])), (h_now, .inr (3, [.ref h_now_cells])), (h_now_cells, .inl (cI, 400, .inl f_now_cells)), (h_copy, .inr (3, [.ref h_copy_cells])), (h_copy_cells, .inl (cI, 400, .inl f_copy_cells))]) (x_runO (n0 := 2) (As := [.long x2, .int x1]) (rest := []) C0 (xc_X4_withoutGroups l D cI cC cZ cL  H.size x2 x1 _ hk) gX4_runScript_X4_withoutGroups rfl ⟨rfl, rfl⟩ (by decide +kernel) rfl ⟨by decide, by decide⟩ ⟨Nat.zero_le _, Nat.zero_le _⟩ hP hD [] rfl rfl hl.1 rfl (Nat.le_of_ble_eq_true rfl) dX4_runScript_29) hP hD hS hA [] [0, 1, 2, 3, 4] [0, 1, 2, 3, 4] rfl rfl rfl (by decide) (fun _ => rfl) rfl (fun r4 u4 H locs hk hP hD hS => ?_)
        refine lv_lconst (v := 0) hx hb dX4_runScript_32 (by decide) ?_
        refine W.lcmp hx hb dX4_runScript_33 ?_
        refine lv_if_le (tgt := 48) hx hb dX4_runScript_34 (by decide) (fun c5 => ?_) (fun c5 => ?_)
        · have hk := hk.1 c5
          refine lv_aload_n hx hb dX4_runScript_48 rfl (lv_at hl 0 rfl) ?_
          refine va_get (D := D) (ci := 4) (v := .ref h_copy) (C := RX4) (T := TX4) (N := 9) hx hb hts xin_X4_runScript_X4 hown hK hP 0 rfl rfl 1 (by decide) (hts (.fieldLink RX4 16 "TakeLog" "copy" "LTakeLog$State;") (by decide +kernel)) (fun _ h9 => h9) rfl dX4_runScript_49 ?_
          refine lv_aload_n hx hb dX4_runScript_52 rfl (lv_at hl 0 rfl) ?_
          refine va_get (D := D) (ci := 4) (v := .ref h_now) (C := RX4) (T := TX4) (N := 9) hx hb hts xin_X4_runScript_X4 hown hK hP 0 rfl rfl 0 (by decide) (hts (.fieldLink RX4 12 "TakeLog" "now" "LTakeLog$State;") (by decide +kernel)) (fun _ h9 => h9) rfl dX4_runScript_53 ?_
          refine x_joinv (ws1 := fun (u6 : (Nat → Int32)) => [(h, .inr (4, [.ref h_now, .ref h_copy, .ref h_past, .ref h_slots, .ref h_saved, .ref h_text, .ref h_shown, .int f_remembered, .int f_oldest])), (h_now, .inr (3, [.ref h_now_cells])), (h_now_cells, .inl (cI, 400, .inl f_now_cells)), (h_copy, .inr (3, [.ref h_copy_cells])), (h_copy_cells, .inl (cI, 400, .inl u6))]) (x_runV (n0 := 1) (As := [.ref h_now]) (rest := []) C0 (xc_X3_copyFrom l D cI cC cZ cL h_copy h_copy_cells h_now h_now_cells H.size f_copy_cells f_now_cells _ hk) gX4_runScript_X3_copyFrom rfl ⟨rfl, rfl⟩ (by decide +kernel) rfl ⟨by decide, by decide⟩ ⟨Nat.zero_le _, Nat.zero_le _⟩ hP hD [3, 4, 1, 2] rfl rfl (k := 3) rfl rfl rfl hl.1 rfl (Nat.le_of_ble_eq_true rfl) dX4_runScript_56) hP hD hS hA [3, 4, 1, 2] [0] [0, 3, 4, 1, 2] rfl rfl rfl (by decide) (fun _ => rfl) rfl (fun u6 H locs hk hP hD hS => ?_)
          refine lv_iconst (v := 0) hx hb dX4_runScript_59 (by decide) ?_
          refine lv_istore (lv' := [(4, .int 0), (0, .ref h), (1, .int x1), (2, .long x2)]) hx hb dX4_runScript_60 hl (by decide) rfl (fun ls hl => ?_)
          obtain ⟨n9, hk⟩ := hk
          exact xb_X4_runScript_62 C0 hA T0 hl0 hne  n9 _ _ _ _ hk H locs ls hP hD hS (lv_sub hl [1, 2, 3, 0] rfl)
        · have hk := hk.2 c5
          exact xb_X4_runScript_37 C0 hA T0 hl0 hne  _ hk H locs ls hP hD hS (lv_sub hl [] rfl)
    · have hk := hk.2 c2
      exact xb_X4_runScript_10 C0 hA T0 hl0 hne  _ hk H locs ls hP hD hS (lv_sub hl [] rfl)
theorem xc_X4_runScript (l : Launch) (hl0 : l.stackTraces = false) (D : va_G) (cI cC cZ cL : ClassId) (sf : Nat → Nat) (tL tH : Nat) (h h_now h_copy h_past h_slots h_saved h_text h_shown h_now_cells h_copy_cells : Nat)  (sz : Nat) (f_remembered : Int32) (f_oldest : Int32) (f_now_cells : Nat → Int32) (f_copy_cells : Nat → Int32) (x1 : Int32) (x2 : Int64) (K : Int32 → ((Nat → Int32)) → Prop) (KX : String → ((Nat → Int32)) → Prop) (hk : xp_X4_runScript f_now_cells f_copy_cells x1 x2 K KX) : XMx l yX4_runScript wsX4_runScript ({ frames := 7, cells := 1, slots := 6, locals := 156 } : Room) D (xTY cI cC cZ cL) sf tL tH [.ref h, .int x1, .long x2] [(h, .inr (4, [.ref h_now, .ref h_copy, .ref h_past, .ref h_slots, .ref h_saved, .ref h_text, .ref h_shown, .int f_remembered, .int f_oldest])), (h_now, .inr (3, [.ref h_now_cells])), (h_now_cells, .inl (cI, 400, .inl f_now_cells)), (h_copy, .inr (3, [.ref h_copy_cells])), (h_copy_cells, .inl (cI, 400, .inl f_copy_cells))] sz (fun (r : Int32) (u : (Nat → Int32)) => K r u) (fun (E : String) (u : (Nat → Int32)) => KX E u) (fun (u : (Nat → Int32)) => [(h, .inr (4, [.ref h_now, .ref h_copy, .ref h_past, .ref h_slots, .ref h_saved, .ref h_text, .ref h_shown, .int f_remembered, .int f_oldest])), (h_now, .inr (3, [.ref h_now_cells])), (h_now_cells, .inl (cI, 400, .inl f_now_cells)), (h_copy, .inr (3, [.ref h_copy_cells])), (h_copy_cells, .inl (cI, 400, .inl u))]) :=
  x_enterX (cc := cX4_runScript) (maxL := 5) (ret := (some .int)) (own := RX4) (by decide) rfl rfl (Nat.le_of_ble_eq_true rfl) (fun p e s m below meth c ls C0 T0 hne hA hP hD hS hl => xb_X4_runScript_0 C0 hA T0 hl0 hne _ _ _ hk s.heap [] ls hP hD hS hl)
set_option maxRecDepth 20000 in
theorem xw_X4_simulate_IA : ∀ w ∈ (vx_atS RX4 53 xIA xNm).filter goodWord, w ∈ wsX4_simulate := by decide +kernel
set_option maxRecDepth 20000 in
theorem xin_X4_simulate_X4 : ∀ w ∈ u_ws RX4 TX4 9, w ∈ wsX4_simulate := by decide +kernel
set_option maxRecDepth 20000 in
theorem xin_X4_simulate_X3 : ∀ w ∈ u_ws RX3 TX3 1, w ∈ wsX4_simulate := by decide +kernel
set_option maxHeartbeats 4000000 in
set_option maxRecDepth 100000 in
theorem xb_X4_simulate_11 {p : Program} {l : Launch} {e : Env} {s : State} {m : MethodId} {args : Array Value} {below : List Frame} {meth : Method} {c : Code} {A : Nat → Prop} {D : va_G} {cI cC cZ cL : ClassId} {sf : Nat → Nat} {tL tH : Nat} {h h_now h_copy h_past h_slots h_saved h_text h_shown h_now_cells h_copy_cells : Nat}  {f_remembered : Int32} {f_oldest : Int32} {f_now_cells : Nat → Int32} {K : Int32 → ((Nat → Int32)) → Prop} {KX : String → ((Nat → Int32)) → Prop}  (C0 : xC p s m args meth c cX4_simulate 7 (some .int) wsX4_simulate RX4 D (xTY cI cC cZ cL)) (hA : ∀ q : Nat, s.heap.size ≤ q → A q) (T0 : xT sf tL tH A s s.heap) (hl0 : l.stackTraces = false) (hne : ∀ x ∈ c.exceptionTable.toList, False)  : ∀ (f_copy_cells : Nat → Int32) , xp_X4_simulate_11 f_now_cells K KX f_copy_cells → ∀ (H : Heap) (locs : List Loc) (ls : Array Slot), va_P D vwCl [(h, .inr (4, [.ref h_now, .ref h_copy, .ref h_past, .ref h_slots, .ref h_saved, .ref h_text, .ref h_shown, .int f_remembered, .int f_oldest])), (h_now, .inr (3, [.ref h_now_cells])), (h_now_cells, .inl (cI, 400, .inl f_now_cells)), (h_copy, .inr (3, [.ref h_copy_cells])), (h_copy_cells, .inl (cI, 400, .inl f_copy_cells))] H → va_D A [(h, .inr (4, [.ref h_now, .ref h_copy, .ref h_past, .ref h_slots, .ref h_saved, .ref h_text, .ref h_shown, .int f_remembered, .int f_oldest])), (h_now, .inr (3, [.ref h_now_cells])), (h_now_cells, .inl (cI, 400, .inl f_now_cells)), (h_copy, .inr (3, [.ref h_copy_cells])), (h_copy_cells, .inl (cI, 400, .inl f_copy_cells))] → va_S A s.heap H locs → lv_has ls 7 [] → W p l e ({ frames := 6, cells := 1, slots := 6, locals := 135 } : Room) s m args below meth c H locs 0 0 (vx_MQ below (va_Qi (fun (r : Int32) (u : (Nat → Int32)) => K r u) (fun u t => xE D A ((fun (u : (Nat → Int32)) => [(h, .inr (4, [.ref h_now, .ref h_copy, .ref h_past, .ref h_slots, .ref h_saved, .ref h_text, .ref h_shown, .int f_remembered, .int f_oldest])), (h_now, .inr (3, [.ref h_now_cells])), (h_now_cells, .inl (cI, 400, .inl f_now_cells)), (h_copy, .inr (3, [.ref h_copy_cells])), (h_copy_cells, .inl (cI, 400, .inl u))]) u) t) A) (vx_X (fun (_ : (Nat → Int32)) => True) (fun E u t => ((fun (E : String) (u : (Nat → Int32)) => KX E u) E u) ∧ xE D A ((fun (u : (Nat → Int32)) => [(h, .inr (4, [.ref h_now, .ref h_copy, .ref h_past, .ref h_slots, .ref h_saved, .ref h_text, .ref h_shown, .int f_remembered, .int f_oldest])), (h_now, .inr (3, [.ref h_now_cells])), (h_now_cells, .inl (cI, 400, .inl f_now_cells)), (h_copy, .inr (3, [.ref h_copy_cells])), (h_copy_cells, .inl (cI, 400, .inl u))]) u) t) A) args s 1 6 A) (F0 m 11 ls []) := by
  obtain ⟨hx, hb, hr, hml, hown, hts, hlocks, hK, hN⟩ := id C0
  intro f_copy_cells hk H locs ls hP hD hS hl
  rw [xp_X4_simulate_11] at hk
  exact x_thrW (text := "the turns are not 1 to 80") C0 T0 hl0 hne (f_copy_cells) hk hP hD hS hl.1 (by decide +kernel) (by decide +kernel) (by decide +kernel) xw_X4_simulate_IA x_ngIA x_otIA (by decide +kernel) (by decide) (Nat.le_of_ble_eq_true rfl) (by decide) (by decide) dX4_simulate_11 dX4_simulate_14 dX4_simulate_15 dX4_simulate_18 dX4_simulate_21
set_option maxHeartbeats 4000000 in
set_option maxRecDepth 100000 in
theorem xb_X4_simulate_39 {p : Program} {l : Launch} {e : Env} {s : State} {m : MethodId} {args : Array Value} {below : List Frame} {meth : Method} {c : Code} {A : Nat → Prop} {D : va_G} {cI cC cZ cL : ClassId} {sf : Nat → Nat} {tL tH : Nat} {h h_now h_copy h_past h_slots h_saved h_text h_shown h_now_cells h_copy_cells : Nat}  {f_remembered : Int32} {f_oldest : Int32} {f_now_cells : Nat → Int32} {K : Int32 → ((Nat → Int32)) → Prop} {KX : String → ((Nat → Int32)) → Prop}  (C0 : xC p s m args meth c cX4_simulate 7 (some .int) wsX4_simulate RX4 D (xTY cI cC cZ cL)) (hA : ∀ q : Nat, s.heap.size ≤ q → A q) (T0 : xT sf tL tH A s s.heap) (hl0 : l.stackTraces = false) (hne : ∀ x ∈ c.exceptionTable.toList, False)  : ∀ (n : Nat) (f_copy_cells : Nat → Int32) (v3 : Int32) (v4 : Int64) (v6 : Int32) , xp_X4_simulate_39 f_now_cells K KX n f_copy_cells v3 v4 v6 → ∀ (H : Heap) (locs : List Loc) (ls : Array Slot), va_P D vwCl [(h, .inr (4, [.ref h_now, .ref h_copy, .ref h_past, .ref h_slots, .ref h_saved, .ref h_text, .ref h_shown, .int f_remembered, .int f_oldest])), (h_now, .inr (3, [.ref h_now_cells])), (h_now_cells, .inl (cI, 400, .inl f_now_cells)), (h_copy, .inr (3, [.ref h_copy_cells])), (h_copy_cells, .inl (cI, 400, .inl f_copy_cells))] H → va_D A [(h, .inr (4, [.ref h_now, .ref h_copy, .ref h_past, .ref h_slots, .ref h_saved, .ref h_text, .ref h_shown, .int f_remembered, .int f_oldest])), (h_now, .inr (3, [.ref h_now_cells])), (h_now_cells, .inl (cI, 400, .inl f_now_cells)), (h_copy, .inr (3, [.ref h_copy_cells])), (h_copy_cells, .inl (cI, 400, .inl f_copy_cells))] → va_S A s.heap H locs → lv_has ls 7 [(0, .ref h), (3, .int v3), (4, .long v4), (6, .int v6)] → W p l e ({ frames := 6, cells := 1, slots := 6, locals := 135 } : Room) s m args below meth c H locs 0 0 (vx_MQ below (va_Qi (fun (r : Int32) (u : (Nat → Int32)) => K r u) (fun u t => xE D A ((fun (u : (Nat → Int32)) => [(h, .inr (4, [.ref h_now, .ref h_copy, .ref h_past, .ref h_slots, .ref h_saved, .ref h_text, .ref h_shown, .int f_remembered, .int f_oldest])), (h_now, .inr (3, [.ref h_now_cells])), (h_now_cells, .inl (cI, 400, .inl f_now_cells)), (h_copy, .inr (3, [.ref h_copy_cells])), (h_copy_cells, .inl (cI, 400, .inl u))]) u) t) A) (vx_X (fun (_ : (Nat → Int32)) => True) (fun E u t => ((fun (E : String) (u : (Nat → Int32)) => KX E u) E u) ∧ xE D A ((fun (u : (Nat → Int32)) => [(h, .inr (4, [.ref h_now, .ref h_copy, .ref h_past, .ref h_slots, .ref h_saved, .ref h_text, .ref h_shown, .int f_remembered, .int f_oldest])), (h_now, .inr (3, [.ref h_now_cells])), (h_now_cells, .inl (cI, 400, .inl f_now_cells)), (h_copy, .inr (3, [.ref h_copy_cells])), (h_copy_cells, .inl (cI, 400, .inl u))]) u) t) A) args s 1 6 A) (F0 m 39 ls []) := by
  obtain ⟨hx, hb, hr, hml, hown, hts, hlocks, hK, hN⟩ := id C0
  intro n
  induction n with
  | zero => intro f_copy_cells v3 v4 v6 hk; exact hk.elim
  | succ n ih =>
    intro f_copy_cells v3 v4 v6 hk H locs ls hP hD hS hl
    rw [xp_X4_simulate_39] at hk
    refine lv_iload hx hb dX4_simulate_39 (lv_at hl 3 rfl) ?_
    refine lv_iload_n hx hb dX4_simulate_41 rfl (lv_at hl 1 rfl) ?_
    refine lv_icmp_ge (tgt := 73) hx hb dX4_simulate_42 (by decide) (fun c1 => ?_) (fun c1 => ?_)
    · have hk := hk.1 c1
      refine lv_sipush (v := 1000) hx hb dX4_simulate_73 (by decide) ?_
      refine lv_aload_n hx hb dX4_simulate_76 rfl (lv_at hl 0 rfl) ?_
      refine va_get (D := D) (ci := 4) (v := .ref h_copy) (C := RX4) (T := TX4) (N := 9) hx hb hts xin_X4_simulate_X4 hown hK hP 0 rfl rfl 1 (by decide) (hts (.fieldLink RX4 16 "TakeLog" "copy" "LTakeLog$State;") (by decide +kernel)) (fun _ h9 => h9) rfl dX4_simulate_77 ?_
      refine x_joini (ws1 := fun (_ : Unit) => [(h, .inr (4, [.ref h_now, .ref h_copy, .ref h_past, .ref h_slots, .ref h_saved, .ref h_text, .ref h_shown, .int f_remembered, .int f_oldest])), (h_now, .inr (3, [.ref h_now_cells])), (h_now_cells, .inl (cI, 400, .inl f_now_cells)), (h_copy, .inr (3, [.ref h_copy_cells])), (h_copy_cells, .inl (cI, 400, .inl f_copy_cells))]) (x_runV (n0 := 0) (As := []) (rest := [.int 1000]) C0 (xc_X3_wrongSlates l D cI cC cZ cL h_copy h_copy_cells H.size f_copy_cells _ hk) gX4_simulate_X3_wrongSlates rfl ⟨rfl, rfl⟩ (by decide +kernel) rfl ⟨by decide, by decide⟩ ⟨Nat.zero_le _, Nat.zero_le _⟩ hP hD [3, 4] rfl rfl (k := 3) rfl rfl rfl hl.1 rfl (Nat.le_of_ble_eq_true rfl) dX4_simulate_80) hP hD hS hA [3, 4] [0, 1, 2] [0, 1, 2, 3, 4] rfl rfl rfl (by decide) (fun _ => rfl) rfl (fun r2 u2 H locs hk hP hD hS => ?_)
      refine lv_imul hx hb dX4_simulate_83 ?_
      refine lv_aload_n hx hb dX4_simulate_84 rfl (lv_at hl 0 rfl) ?_
      refine va_get (D := D) (ci := 4) (v := .ref h_copy) (C := RX4) (T := TX4) (N := 9) hx hb hts xin_X4_simulate_X4 hown hK hP 0 rfl rfl 1 (by decide) (hts (.fieldLink RX4 16 "TakeLog" "copy" "LTakeLog$State;") (by decide +kernel)) (fun _ h9 => h9) rfl dX4_simulate_85 ?_
      refine x_joini (ws1 := fun (_ : Unit) => [(h, .inr (4, [.ref h_now, .ref h_copy, .ref h_past, .ref h_slots, .ref h_saved, .ref h_text, .ref h_shown, .int f_remembered, .int f_oldest])), (h_now, .inr (3, [.ref h_now_cells])), (h_now_cells, .inl (cI, 400, .inl f_now_cells)), (h_copy, .inr (3, [.ref h_copy_cells])), (h_copy_cells, .inl (cI, 400, .inl f_copy_cells))]) (x_runV (n0 := 0) (As := []) (rest := [.int (1000 * r2)]) C0 (xc_X3_unlikeSounds l D cI cC cZ cL h_copy h_copy_cells H.size f_copy_cells _ hk) gX4_simulate_X3_unlikeSounds rfl ⟨rfl, rfl⟩ (by decide +kernel) rfl ⟨by decide, by decide⟩ ⟨Nat.zero_le _, Nat.zero_le _⟩ hP hD [3, 4] rfl rfl (k := 3) rfl rfl rfl hl.1 rfl (Nat.le_of_ble_eq_true rfl) dX4_simulate_88) hP hD hS hA [3, 4] [0, 1, 2] [0, 1, 2, 3, 4] rfl rfl rfl (by decide) (fun _ => rfl) rfl (fun r3 u3 H locs hk hP hD hS => ?_)
      refine lv_iadd hx hb dX4_simulate_91 ?_
      exact x_retiX C0 (f_copy_cells) hk hP hD hS dX4_simulate_92
    · have hk := hk.2 c1
      refine lv_lload hx hb dX4_simulate_45 (lv_at hl 2 rfl) ?_
      refine lv_ldc2 (own := RX4) hx hb hown (hts (.constantLong RX4 271 (6364136223846793005)) (by decide +kernel)) dX4_simulate_47 ?_
      refine lv_lmul hx hb dX4_simulate_50 ?_
      refine lv_ldc2 (own := RX4) hx hb hown (hts (.constantLong RX4 273 (1442695040888963407)) (by decide +kernel)) dX4_simulate_51 ?_
      refine lv_ladd hx hb dX4_simulate_54 ?_
      refine lv_lstore (lv' := [(4, .long ((v4 * 6364136223846793005) + 1442695040888963407)), (0, .ref h), (3, .int v3), (6, .int v6)]) hx hb dX4_simulate_55 hl (by decide) rfl (fun ls hl => ?_)
      refine lv_aload_n hx hb dX4_simulate_57 rfl (lv_at hl 1 rfl) ?_
      refine lv_lload hx hb dX4_simulate_58 (lv_at hl 0 rfl) ?_
      refine lv_bipush (v := 33) hx hb dX4_simulate_60 (by decide) ?_
      refine lv_lushr hx hb dX4_simulate_62 rfl ?_
      refine lv_l2i hx hb dX4_simulate_63 rfl ?_
      refine x_joinv (ws1 := fun (u4 : (Nat → Int32)) => [(h, .inr (4, [.ref h_now, .ref h_copy, .ref h_past, .ref h_slots, .ref h_saved, .ref h_text, .ref h_shown, .int f_remembered, .int f_oldest])), (h_now, .inr (3, [.ref h_now_cells])), (h_now_cells, .inl (cI, 400, .inl f_now_cells)), (h_copy, .inr (3, [.ref h_copy_cells])), (h_copy_cells, .inl (cI, 400, .inl u4))]) (x_runV (n0 := 1) (As := [.int (((((v4 * 6364136223846793005) + 1442695040888963407).toUInt64 >>> ((33 : Int32).toInt64.toUInt64 &&& Int64.toUInt64 63)).toInt64).toInt32)]) (rest := []) C0 (xc_X4_doTurn l D cI cC cZ cL h h_now h_copy h_past h_slots h_saved h_text h_shown h_copy_cells H.size f_remembered f_oldest f_copy_cells (((((v4 * 6364136223846793005) + 1442695040888963407).toUInt64 >>> ((33 : Int32).toInt64.toUInt64 &&& Int64.toUInt64 63)).toInt64).toInt32) _ hk) gX4_simulate_X4_doTurn rfl ⟨rfl, rfl⟩ (by decide +kernel) rfl ⟨by decide, by decide⟩ ⟨Nat.zero_le _, Nat.zero_le _⟩ hP hD [0, 3, 4] rfl rfl (k := 0) rfl rfl rfl hl.1 rfl (Nat.le_of_ble_eq_true rfl) dX4_simulate_64) hP hD hS hA [0, 3, 4] [1, 2] [2, 0, 1, 3, 4] rfl rfl rfl (by decide) (fun _ => rfl) rfl (fun u4 H locs hk hP hD hS => ?_)
      refine lv_iinc (v := (v6 + 1)) (lv' := [(6, .int (v6 + 1)), (4, .long ((v4 * 6364136223846793005) + 1442695040888963407)), (0, .ref h), (3, .int v3)]) hx hb dX4_simulate_67 hl (k := 3) rfl rfl (by decide) rfl (fun ls hl => ?_)
      refine lv_goto (tgt := 39) hx hb dX4_simulate_70 (by decide) ?_
      exact ih _ _ _ _ hk H locs ls hP hD hS (lv_sub hl [2, 3, 1, 0] rfl)
set_option maxHeartbeats 4000000 in
set_option maxRecDepth 100000 in
theorem xb_X4_simulate_0 {p : Program} {l : Launch} {e : Env} {s : State} {m : MethodId} {args : Array Value} {below : List Frame} {meth : Method} {c : Code} {A : Nat → Prop} {D : va_G} {cI cC cZ cL : ClassId} {sf : Nat → Nat} {tL tH : Nat} {h h_now h_copy h_past h_slots h_saved h_text h_shown h_now_cells h_copy_cells : Nat}  {f_remembered : Int32} {f_oldest : Int32} {f_now_cells : Nat → Int32} {K : Int32 → ((Nat → Int32)) → Prop} {KX : String → ((Nat → Int32)) → Prop}  (C0 : xC p s m args meth c cX4_simulate 7 (some .int) wsX4_simulate RX4 D (xTY cI cC cZ cL)) (hA : ∀ q : Nat, s.heap.size ≤ q → A q) (T0 : xT sf tL tH A s s.heap) (hl0 : l.stackTraces = false) (hne : ∀ x ∈ c.exceptionTable.toList, False)  : ∀ (f_copy_cells : Nat → Int32) (x1 : Int64) (x2 : Int32) , xp_X4_simulate f_now_cells f_copy_cells x1 x2 K KX → ∀ (H : Heap) (locs : List Loc) (ls : Array Slot), va_P D vwCl [(h, .inr (4, [.ref h_now, .ref h_copy, .ref h_past, .ref h_slots, .ref h_saved, .ref h_text, .ref h_shown, .int f_remembered, .int f_oldest])), (h_now, .inr (3, [.ref h_now_cells])), (h_now_cells, .inl (cI, 400, .inl f_now_cells)), (h_copy, .inr (3, [.ref h_copy_cells])), (h_copy_cells, .inl (cI, 400, .inl f_copy_cells))] H → va_D A [(h, .inr (4, [.ref h_now, .ref h_copy, .ref h_past, .ref h_slots, .ref h_saved, .ref h_text, .ref h_shown, .int f_remembered, .int f_oldest])), (h_now, .inr (3, [.ref h_now_cells])), (h_now_cells, .inl (cI, 400, .inl f_now_cells)), (h_copy, .inr (3, [.ref h_copy_cells])), (h_copy_cells, .inl (cI, 400, .inl f_copy_cells))] → va_S A s.heap H locs → lv_has ls 7 [(0, .ref h), (1, .long x1), (3, .int x2)] → W p l e ({ frames := 6, cells := 1, slots := 6, locals := 135 } : Room) s m args below meth c H locs 0 0 (vx_MQ below (va_Qi (fun (r : Int32) (u : (Nat → Int32)) => K r u) (fun u t => xE D A ((fun (u : (Nat → Int32)) => [(h, .inr (4, [.ref h_now, .ref h_copy, .ref h_past, .ref h_slots, .ref h_saved, .ref h_text, .ref h_shown, .int f_remembered, .int f_oldest])), (h_now, .inr (3, [.ref h_now_cells])), (h_now_cells, .inl (cI, 400, .inl f_now_cells)), (h_copy, .inr (3, [.ref h_copy_cells])), (h_copy_cells, .inl (cI, 400, .inl u))]) u) t) A) (vx_X (fun (_ : (Nat → Int32)) => True) (fun E u t => ((fun (E : String) (u : (Nat → Int32)) => KX E u) E u) ∧ xE D A ((fun (u : (Nat → Int32)) => [(h, .inr (4, [.ref h_now, .ref h_copy, .ref h_past, .ref h_slots, .ref h_saved, .ref h_text, .ref h_shown, .int f_remembered, .int f_oldest])), (h_now, .inr (3, [.ref h_now_cells])), (h_now_cells, .inl (cI, 400, .inl f_now_cells)), (h_copy, .inr (3, [.ref h_copy_cells])), (h_copy_cells, .inl (cI, 400, .inl u))]) u) t) A) args s 1 6 A) (F0 m 0 ls []) := by
  obtain ⟨hx, hb, hr, hml, hown, hts, hlocks, hK, hN⟩ := id C0
  intro f_copy_cells x1 x2 hk H locs ls hP hD hS hl
  rw [xp_X4_simulate] at hk
  refine lv_iload_n hx hb dX4_simulate_0 rfl (lv_at hl 2 rfl) ?_
  refine lv_iconst (v := 1) hx hb dX4_simulate_1 (by decide) ?_
  refine lv_icmp_lt (tgt := 11) hx hb dX4_simulate_2 (by decide) (fun c1 => ?_) (fun c1 => ?_)
  · have hk := hk.1 c1
    exact xb_X4_simulate_11 C0 hA T0 hl0 hne  _ hk H locs ls hP hD hS (lv_sub hl [] rfl)
  · have hk := hk.2 c1
    refine lv_iload_n hx hb dX4_simulate_5 rfl (lv_at hl 2 rfl) ?_
    refine lv_bipush (v := 80) hx hb dX4_simulate_6 (by decide) ?_
    refine lv_icmp_le (tgt := 22) hx hb dX4_simulate_8 (by decide) (fun c2 => ?_) (fun c2 => ?_)
    · have hk := hk.1 c2
      refine lv_aload_n hx hb dX4_simulate_22 rfl (lv_at hl 0 rfl) ?_
      refine va_get (D := D) (ci := 4) (v := .ref h_copy) (C := RX4) (T := TX4) (N := 9) hx hb hts xin_X4_simulate_X4 hown hK hP 0 rfl rfl 1 (by decide) (hts (.fieldLink RX4 16 "TakeLog" "copy" "LTakeLog$State;") (by decide +kernel)) (fun _ h9 => h9) rfl dX4_simulate_23 ?_
      refine lv_aload_n hx hb dX4_simulate_26 rfl (lv_at hl 0 rfl) ?_
      refine va_get (D := D) (ci := 4) (v := .ref h_now) (C := RX4) (T := TX4) (N := 9) hx hb hts xin_X4_simulate_X4 hown hK hP 0 rfl rfl 0 (by decide) (hts (.fieldLink RX4 12 "TakeLog" "now" "LTakeLog$State;") (by decide +kernel)) (fun _ h9 => h9) rfl dX4_simulate_27 ?_
      refine x_joinv (ws1 := fun (u3 : (Nat → Int32)) => [(h, .inr (4, [.ref h_now, .ref h_copy, .ref h_past, .ref h_slots, .ref h_saved, .ref h_text, .ref h_shown, .int f_remembered, .int f_oldest])), (h_now, .inr (3, [.ref h_now_cells])), (h_now_cells, .inl (cI, 400, .inl f_now_cells)), (h_copy, .inr (3, [.ref h_copy_cells])), (h_copy_cells, .inl (cI, 400, .inl u3))]) (x_runV (n0 := 1) (As := [.ref h_now]) (rest := []) C0 (xc_X3_copyFrom l D cI cC cZ cL h_copy h_copy_cells h_now h_now_cells H.size f_copy_cells f_now_cells _ hk) gX4_simulate_X3_copyFrom rfl ⟨rfl, rfl⟩ (by decide +kernel) rfl ⟨by decide, by decide⟩ ⟨Nat.zero_le _, Nat.zero_le _⟩ hP hD [3, 4, 1, 2] rfl rfl (k := 3) rfl rfl rfl hl.1 rfl (Nat.le_of_ble_eq_true rfl) dX4_simulate_30) hP hD hS hA [3, 4, 1, 2] [0] [0, 3, 4, 1, 2] rfl rfl rfl (by decide) (fun _ => rfl) rfl (fun u3 H locs hk hP hD hS => ?_)
      refine lv_lload_n hx hb dX4_simulate_33 rfl (lv_at hl 1 rfl) ?_
      refine lv_lstore (lv' := [(4, .long x1), (0, .ref h), (1, .long x1), (3, .int x2)]) hx hb dX4_simulate_34 hl (by decide) rfl (fun ls hl => ?_)
      refine lv_iconst (v := 0) hx hb dX4_simulate_36 (by decide) ?_
      refine lv_istore (lv' := [(6, .int 0), (4, .long x1), (0, .ref h), (1, .long x1), (3, .int x2)]) hx hb dX4_simulate_37 hl (by decide) rfl (fun ls hl => ?_)
      obtain ⟨n9, hk⟩ := hk
      exact xb_X4_simulate_39 C0 hA T0 hl0 hne  n9 _ _ _ _ hk H locs ls hP hD hS (lv_sub hl [2, 4, 1, 0] rfl)
    · have hk := hk.2 c2
      exact xb_X4_simulate_11 C0 hA T0 hl0 hne  _ hk H locs ls hP hD hS (lv_sub hl [] rfl)
theorem xc_X4_simulate (l : Launch) (hl0 : l.stackTraces = false) (D : va_G) (cI cC cZ cL : ClassId) (sf : Nat → Nat) (tL tH : Nat) (h h_now h_copy h_past h_slots h_saved h_text h_shown h_now_cells h_copy_cells : Nat)  (sz : Nat) (f_remembered : Int32) (f_oldest : Int32) (f_now_cells : Nat → Int32) (f_copy_cells : Nat → Int32) (x1 : Int64) (x2 : Int32) (K : Int32 → ((Nat → Int32)) → Prop) (KX : String → ((Nat → Int32)) → Prop) (hk : xp_X4_simulate f_now_cells f_copy_cells x1 x2 K KX) : XMx l yX4_simulate wsX4_simulate ({ frames := 6, cells := 1, slots := 6, locals := 135 } : Room) D (xTY cI cC cZ cL) sf tL tH [.ref h, .long x1, .int x2] [(h, .inr (4, [.ref h_now, .ref h_copy, .ref h_past, .ref h_slots, .ref h_saved, .ref h_text, .ref h_shown, .int f_remembered, .int f_oldest])), (h_now, .inr (3, [.ref h_now_cells])), (h_now_cells, .inl (cI, 400, .inl f_now_cells)), (h_copy, .inr (3, [.ref h_copy_cells])), (h_copy_cells, .inl (cI, 400, .inl f_copy_cells))] sz (fun (r : Int32) (u : (Nat → Int32)) => K r u) (fun (E : String) (u : (Nat → Int32)) => KX E u) (fun (u : (Nat → Int32)) => [(h, .inr (4, [.ref h_now, .ref h_copy, .ref h_past, .ref h_slots, .ref h_saved, .ref h_text, .ref h_shown, .int f_remembered, .int f_oldest])), (h_now, .inr (3, [.ref h_now_cells])), (h_now_cells, .inl (cI, 400, .inl f_now_cells)), (h_copy, .inr (3, [.ref h_copy_cells])), (h_copy_cells, .inl (cI, 400, .inl u))]) :=
  x_enterX (cc := cX4_simulate) (maxL := 7) (ret := (some .int)) (own := RX4) (by decide) rfl rfl (Nat.le_of_ble_eq_true rfl) (fun p e s m below meth c ls C0 T0 hne hA hP hD hS hl => xb_X4_simulate_0 C0 hA T0 hl0 hne _ _ _ hk s.heap [] ls hP hD hS hl)
set_option maxRecDepth 20000 in
theorem xw_X4_save_IO : ∀ w ∈ (vx_atS RX4 101 xIO xNm).filter goodWord, w ∈ wsX4_save := by decide +kernel
set_option maxRecDepth 20000 in
theorem xin_X4_save_X4 : ∀ w ∈ u_ws RX4 TX4 9, w ∈ wsX4_save := by decide +kernel
set_option maxRecDepth 20000 in
theorem xin_X4_save_X3 : ∀ w ∈ u_ws RX3 TX3 1, w ∈ wsX4_save := by decide +kernel
set_option maxRecDepth 20000 in
theorem xin_X4_save_X2 : ∀ w ∈ u_ws RX2 TX2 2, w ∈ wsX4_save := by decide +kernel
set_option maxHeartbeats 4000000 in
set_option maxRecDepth 100000 in
theorem xb_X4_save_9 {p : Program} {l : Launch} {e : Env} {s : State} {m : MethodId} {args : Array Value} {below : List Frame} {meth : Method} {c : Code} {A : Nat → Prop} {D : va_G} {cI cC cZ cL : ClassId} {sf : Nat → Nat} {tL tH : Nat} {h h_now h_copy h_past h_slots h_saved h_text h_shown h_now_cells h_slots_cells : Nat}  {f_remembered : Int32} {f_oldest : Int32} {f_now_cells : Nat → Int32} {K : Int32 → ((Nat → Int32) × (Nat → Int32)) → Prop} {KX : String → ((Nat → Int32) × (Nat → Int32)) → Prop}  (C0 : xC p s m args meth c cX4_save 2 (some .int) wsX4_save RX4 D (xTY cI cC cZ cL)) (hA : ∀ q : Nat, s.heap.size ≤ q → A q) (T0 : xT sf tL tH A s s.heap) (hl0 : l.stackTraces = false) (hne : ∀ x ∈ c.exceptionTable.toList, False)  : ∀ (f_slots_cells : Nat → Int32) (f_saved : Nat → Int32) , xp_X4_save_9 f_now_cells K KX f_slots_cells f_saved → ∀ (H : Heap) (locs : List Loc) (ls : Array Slot), va_P D vwCl [(h, .inr (4, [.ref h_now, .ref h_copy, .ref h_past, .ref h_slots, .ref h_saved, .ref h_text, .ref h_shown, .int f_remembered, .int f_oldest])), (h_now, .inr (3, [.ref h_now_cells])), (h_now_cells, .inl (cI, 400, .inl f_now_cells)), (h_slots, .inr (2, [.ref h_slots_cells, .int 2])), (h_slots_cells, .inl (cI, 800, .inl f_slots_cells)), (h_saved, .inl (cZ, 2, .inl f_saved))] H → va_D A [(h, .inr (4, [.ref h_now, .ref h_copy, .ref h_past, .ref h_slots, .ref h_saved, .ref h_text, .ref h_shown, .int f_remembered, .int f_oldest])), (h_now, .inr (3, [.ref h_now_cells])), (h_now_cells, .inl (cI, 400, .inl f_now_cells)), (h_slots, .inr (2, [.ref h_slots_cells, .int 2])), (h_slots_cells, .inl (cI, 800, .inl f_slots_cells)), (h_saved, .inl (cZ, 2, .inl f_saved))] → va_S A s.heap H locs → lv_has ls 2 [] → W p l e ({ frames := 6, cells := 1, slots := 6, locals := 92 } : Room) s m args below meth c H locs 0 0 (vx_MQ below (va_Qi (fun (r : Int32) (u : (Nat → Int32) × (Nat → Int32)) => K r u) (fun u t => xE D A ((fun (u : (Nat → Int32) × (Nat → Int32)) => [(h, .inr (4, [.ref h_now, .ref h_copy, .ref h_past, .ref h_slots, .ref h_saved, .ref h_text, .ref h_shown, .int f_remembered, .int f_oldest])), (h_now, .inr (3, [.ref h_now_cells])), (h_now_cells, .inl (cI, 400, .inl f_now_cells)), (h_slots, .inr (2, [.ref h_slots_cells, .int 2])), (h_slots_cells, .inl (cI, 800, .inl u.1)), (h_saved, .inl (cZ, 2, .inl u.2))]) u) t) A) (vx_X (fun (_ : (Nat → Int32) × (Nat → Int32)) => True) (fun E u t => ((fun (E : String) (u : (Nat → Int32) × (Nat → Int32)) => KX E u) E u) ∧ xE D A ((fun (u : (Nat → Int32) × (Nat → Int32)) => [(h, .inr (4, [.ref h_now, .ref h_copy, .ref h_past, .ref h_slots, .ref h_saved, .ref h_text, .ref h_shown, .int f_remembered, .int f_oldest])), (h_now, .inr (3, [.ref h_now_cells])), (h_now_cells, .inl (cI, 400, .inl f_now_cells)), (h_slots, .inr (2, [.ref h_slots_cells, .int 2])), (h_slots_cells, .inl (cI, 800, .inl u.1)), (h_saved, .inl (cZ, 2, .inl u.2))]) u) t) A) args s 1 6 A) (F0 m 9 ls []) := by
  obtain ⟨hx, hb, hr, hml, hown, hts, hlocks, hK, hN⟩ := id C0
  intro f_slots_cells f_saved hk H locs ls hP hD hS hl
  rw [xp_X4_save_9] at hk
  exact x_thrW (text := "there is no such save slot") C0 T0 hl0 hne (f_slots_cells, f_saved) hk hP hD hS hl.1 (by decide +kernel) (by decide +kernel) (by decide +kernel) xw_X4_save_IO x_ngIO x_otIO (by decide +kernel) (by decide) (Nat.le_of_ble_eq_true rfl) (by decide) (by decide) dX4_save_9 dX4_save_12 dX4_save_13 dX4_save_16 dX4_save_19
set_option maxHeartbeats 4000000 in
set_option maxRecDepth 100000 in
theorem xb_X4_save_0 {p : Program} {l : Launch} {e : Env} {s : State} {m : MethodId} {args : Array Value} {below : List Frame} {meth : Method} {c : Code} {A : Nat → Prop} {D : va_G} {cI cC cZ cL : ClassId} {sf : Nat → Nat} {tL tH : Nat} {h h_now h_copy h_past h_slots h_saved h_text h_shown h_now_cells h_slots_cells : Nat}  {f_remembered : Int32} {f_oldest : Int32} {f_now_cells : Nat → Int32} {K : Int32 → ((Nat → Int32) × (Nat → Int32)) → Prop} {KX : String → ((Nat → Int32) × (Nat → Int32)) → Prop}  (C0 : xC p s m args meth c cX4_save 2 (some .int) wsX4_save RX4 D (xTY cI cC cZ cL)) (hA : ∀ q : Nat, s.heap.size ≤ q → A q) (T0 : xT sf tL tH A s s.heap) (hl0 : l.stackTraces = false) (hne : ∀ x ∈ c.exceptionTable.toList, False)  : ∀ (f_slots_cells : Nat → Int32) (f_saved : Nat → Int32) (x1 : Int32) , xp_X4_save f_now_cells f_slots_cells f_saved x1 K KX → ∀ (H : Heap) (locs : List Loc) (ls : Array Slot), va_P D vwCl [(h, .inr (4, [.ref h_now, .ref h_copy, .ref h_past, .ref h_slots, .ref h_saved, .ref h_text, .ref h_shown, .int f_remembered, .int f_oldest])), (h_now, .inr (3, [.ref h_now_cells])), (h_now_cells, .inl (cI, 400, .inl f_now_cells)), (h_slots, .inr (2, [.ref h_slots_cells, .int 2])), (h_slots_cells, .inl (cI, 800, .inl f_slots_cells)), (h_saved, .inl (cZ, 2, .inl f_saved))] H → va_D A [(h, .inr (4, [.ref h_now, .ref h_copy, .ref h_past, .ref h_slots, .ref h_saved, .ref h_text, .ref h_shown, .int f_remembered, .int f_oldest])), (h_now, .inr (3, [.ref h_now_cells])), (h_now_cells, .inl (cI, 400, .inl f_now_cells)), (h_slots, .inr (2, [.ref h_slots_cells, .int 2])), (h_slots_cells, .inl (cI, 800, .inl f_slots_cells)), (h_saved, .inl (cZ, 2, .inl f_saved))] → va_S A s.heap H locs → lv_has ls 2 [(0, .ref h), (1, .int x1)] → W p l e ({ frames := 6, cells := 1, slots := 6, locals := 92 } : Room) s m args below meth c H locs 0 0 (vx_MQ below (va_Qi (fun (r : Int32) (u : (Nat → Int32) × (Nat → Int32)) => K r u) (fun u t => xE D A ((fun (u : (Nat → Int32) × (Nat → Int32)) => [(h, .inr (4, [.ref h_now, .ref h_copy, .ref h_past, .ref h_slots, .ref h_saved, .ref h_text, .ref h_shown, .int f_remembered, .int f_oldest])), (h_now, .inr (3, [.ref h_now_cells])), (h_now_cells, .inl (cI, 400, .inl f_now_cells)), (h_slots, .inr (2, [.ref h_slots_cells, .int 2])), (h_slots_cells, .inl (cI, 800, .inl u.1)), (h_saved, .inl (cZ, 2, .inl u.2))]) u) t) A) (vx_X (fun (_ : (Nat → Int32) × (Nat → Int32)) => True) (fun E u t => ((fun (E : String) (u : (Nat → Int32) × (Nat → Int32)) => KX E u) E u) ∧ xE D A ((fun (u : (Nat → Int32) × (Nat → Int32)) => [(h, .inr (4, [.ref h_now, .ref h_copy, .ref h_past, .ref h_slots, .ref h_saved, .ref h_text, .ref h_shown, .int f_remembered, .int f_oldest])), (h_now, .inr (3, [.ref h_now_cells])), (h_now_cells, .inl (cI, 400, .inl f_now_cells)), (h_slots, .inr (2, [.ref h_slots_cells, .int 2])), (h_slots_cells, .inl (cI, 800, .inl u.1)), (h_saved, .inl (cZ, 2, .inl u.2))]) u) t) A) args s 1 6 A) (F0 m 0 ls []) := by
  obtain ⟨hx, hb, hr, hml, hown, hts, hlocks, hK, hN⟩ := id C0
  intro f_slots_cells f_saved x1 hk H locs ls hP hD hS hl
  rw [xp_X4_save] at hk
  refine lv_iload_n hx hb dX4_save_0 rfl (lv_at hl 1 rfl) ?_
  refine lv_if_lt (tgt := 9) hx hb dX4_save_1 (by decide) (fun c1 => ?_) (fun c1 => ?_)
  · have hk := hk.1 c1
    exact xb_X4_save_9 C0 hA T0 hl0 hne  _ _ hk H locs ls hP hD hS (lv_sub hl [] rfl)
  · have hk := hk.2 c1
    refine lv_iload_n hx hb dX4_save_4 rfl (lv_at hl 1 rfl) ?_
    refine lv_iconst (v := 2) hx hb dX4_save_5 (by decide) ?_
    refine lv_icmp_lt (tgt := 20) hx hb dX4_save_6 (by decide) (fun c2 => ?_) (fun c2 => ?_)
    · have hk := hk.1 c2
      refine lv_aload_n hx hb dX4_save_20 rfl (lv_at hl 0 rfl) ?_
      refine va_get (D := D) (ci := 4) (v := .ref h_slots) (C := RX4) (T := TX4) (N := 9) hx hb hts xin_X4_save_X4 hown hK hP 0 rfl rfl 3 (by decide) (hts (.fieldLink RX4 28 "TakeLog" "slots" "LTakeLog$Shelf;") (by decide +kernel)) (fun _ h9 => h9) rfl dX4_save_21 ?_
      refine lv_iload_n hx hb dX4_save_24 rfl (lv_at hl 1 rfl) ?_
      refine lv_aload_n hx hb dX4_save_25 rfl (lv_at hl 0 rfl) ?_
      refine va_get (D := D) (ci := 4) (v := .ref h_now) (C := RX4) (T := TX4) (N := 9) hx hb hts xin_X4_save_X4 hown hK hP 0 rfl rfl 0 (by decide) (hts (.fieldLink RX4 12 "TakeLog" "now" "LTakeLog$State;") (by decide +kernel)) (fun _ h9 => h9) rfl dX4_save_26 ?_
      refine x_joinv (ws1 := fun (u3 : (Nat → Int32)) => [(h, .inr (4, [.ref h_now, .ref h_copy, .ref h_past, .ref h_slots, .ref h_saved, .ref h_text, .ref h_shown, .int f_remembered, .int f_oldest])), (h_now, .inr (3, [.ref h_now_cells])), (h_now_cells, .inl (cI, 400, .inl f_now_cells)), (h_slots, .inr (2, [.ref h_slots_cells, .int 2])), (h_slots_cells, .inl (cI, 800, .inl u3)), (h_saved, .inl (cZ, 2, .inl f_saved))]) (x_runV (n0 := 2) (As := [.int x1, .ref h_now]) (rest := []) C0 (xc_X2_store l D cI cC cZ cL h_slots h_slots_cells h_now h_now_cells 800 H.size 2 f_slots_cells f_now_cells x1 _ hk) gX4_save_X2_store rfl ⟨rfl, rfl⟩ (by decide +kernel) rfl ⟨by decide, by decide⟩ ⟨Nat.zero_le _, Nat.zero_le _⟩ hP hD [3, 4, 1, 2] rfl rfl (k := 3) rfl rfl rfl hl.1 rfl (Nat.le_of_ble_eq_true rfl) dX4_save_29) hP hD hS hA [3, 4, 1, 2] [0, 5] [0, 4, 5, 2, 3, 1] rfl rfl rfl (by decide) (fun _ => rfl) rfl (fun u3 H locs hk hP hD hS => ?_)
      refine lv_aload_n hx hb dX4_save_32 rfl (lv_at hl 0 rfl) ?_
      refine va_get (D := D) (ci := 4) (v := .ref h_saved) (C := RX4) (T := TX4) (N := 9) hx hb hts xin_X4_save_X4 hown hK hP 0 rfl rfl 4 (by decide) (hts (.fieldLink RX4 31 "TakeLog" "saved" "[Z") (by decide +kernel)) (fun _ h9 => h9) rfl dX4_save_33 ?_
      refine lv_iload_n hx hb dX4_save_36 rfl (lv_at hl 1 rfl) ?_
      refine lv_iconst (v := 1) hx hb dX4_save_37 (by decide) ?_
      refine x_zast hx hb hK hP hD hS 5 2 rfl rfl hk.1 rfl dX4_save_38 (fun H locs hP hD hS => ?_)
      have hk := hk.2
      have hP : va_P D vwCl [(h, .inr (4, [.ref h_now, .ref h_copy, .ref h_past, .ref h_slots, .ref h_saved, .ref h_text, .ref h_shown, .int f_remembered, .int f_oldest])), (h_now, .inr (3, [.ref h_now_cells])), (h_now_cells, .inl (cI, 400, .inl f_now_cells)), (h_slots, .inr (2, [.ref h_slots_cells, .int 2])), (h_slots_cells, .inl (cI, 800, .inl u3)), (h_saved, .inl (cZ, 2, .inl (upd f_saved x1.toNatClampNeg (vp_nar .boolean 1))))] H := hP
      have hD : va_D A [(h, .inr (4, [.ref h_now, .ref h_copy, .ref h_past, .ref h_slots, .ref h_saved, .ref h_text, .ref h_shown, .int f_remembered, .int f_oldest])), (h_now, .inr (3, [.ref h_now_cells])), (h_now_cells, .inl (cI, 400, .inl f_now_cells)), (h_slots, .inr (2, [.ref h_slots_cells, .int 2])), (h_slots_cells, .inl (cI, 800, .inl u3)), (h_saved, .inl (cZ, 2, .inl (upd f_saved x1.toNatClampNeg (vp_nar .boolean 1))))] := hD
      refine lv_aload_n hx hb dX4_save_39 rfl (lv_at hl 0 rfl) ?_
      refine va_get (D := D) (ci := 4) (v := .ref h_now) (C := RX4) (T := TX4) (N := 9) hx hb hts xin_X4_save_X4 hown hK hP 0 rfl rfl 0 (by decide) (hts (.fieldLink RX4 12 "TakeLog" "now" "LTakeLog$State;") (by decide +kernel)) (fun _ h9 => h9) rfl dX4_save_40 ?_
      refine x_joini (ws1 := fun (_ : Unit) => [(h, .inr (4, [.ref h_now, .ref h_copy, .ref h_past, .ref h_slots, .ref h_saved, .ref h_text, .ref h_shown, .int f_remembered, .int f_oldest])), (h_now, .inr (3, [.ref h_now_cells])), (h_now_cells, .inl (cI, 400, .inl f_now_cells)), (h_slots, .inr (2, [.ref h_slots_cells, .int 2])), (h_slots_cells, .inl (cI, 800, .inl u3)), (h_saved, .inl (cZ, 2, .inl (upd f_saved x1.toNatClampNeg (vp_nar .boolean 1))))]) (x_runV (n0 := 0) (As := []) (rest := []) C0 (xc_X3_takes l D cI cC cZ cL h_now h_now_cells H.size f_now_cells _ hk) gX4_save_X3_takes rfl ⟨rfl, rfl⟩ (by decide +kernel) rfl ⟨by decide, by decide⟩ ⟨Nat.zero_le _, Nat.zero_le _⟩ hP hD [1, 2] rfl rfl (k := 1) rfl rfl rfl hl.1 rfl (Nat.le_of_ble_eq_true rfl) dX4_save_43) hP hD hS hA [1, 2] [0, 3, 4, 5] [0, 4, 5, 1, 2, 3] rfl rfl rfl (by decide) (fun _ => rfl) rfl (fun r4 u4 H locs hk hP hD hS => ?_)
      exact x_retiX C0 (u3, upd f_saved x1.toNatClampNeg (vp_nar .boolean 1)) hk hP hD hS dX4_save_46
    · have hk := hk.2 c2
      exact xb_X4_save_9 C0 hA T0 hl0 hne  _ _ hk H locs ls hP hD hS (lv_sub hl [] rfl)
theorem xc_X4_save (l : Launch) (hl0 : l.stackTraces = false) (D : va_G) (cI cC cZ cL : ClassId) (sf : Nat → Nat) (tL tH : Nat) (h h_now h_copy h_past h_slots h_saved h_text h_shown h_now_cells h_slots_cells : Nat)  (sz : Nat) (f_remembered : Int32) (f_oldest : Int32) (f_now_cells : Nat → Int32) (f_slots_cells : Nat → Int32) (f_saved : Nat → Int32) (x1 : Int32) (K : Int32 → ((Nat → Int32) × (Nat → Int32)) → Prop) (KX : String → ((Nat → Int32) × (Nat → Int32)) → Prop) (hk : xp_X4_save f_now_cells f_slots_cells f_saved x1 K KX) : XMx l yX4_save wsX4_save ({ frames := 6, cells := 1, slots := 6, locals := 92 } : Room) D (xTY cI cC cZ cL) sf tL tH [.ref h, .int x1] [(h, .inr (4, [.ref h_now, .ref h_copy, .ref h_past, .ref h_slots, .ref h_saved, .ref h_text, .ref h_shown, .int f_remembered, .int f_oldest])), (h_now, .inr (3, [.ref h_now_cells])), (h_now_cells, .inl (cI, 400, .inl f_now_cells)), (h_slots, .inr (2, [.ref h_slots_cells, .int 2])), (h_slots_cells, .inl (cI, 800, .inl f_slots_cells)), (h_saved, .inl (cZ, 2, .inl f_saved))] sz (fun (r : Int32) (u : (Nat → Int32) × (Nat → Int32)) => K r u) (fun (E : String) (u : (Nat → Int32) × (Nat → Int32)) => KX E u) (fun (u : (Nat → Int32) × (Nat → Int32)) => [(h, .inr (4, [.ref h_now, .ref h_copy, .ref h_past, .ref h_slots, .ref h_saved, .ref h_text, .ref h_shown, .int f_remembered, .int f_oldest])), (h_now, .inr (3, [.ref h_now_cells])), (h_now_cells, .inl (cI, 400, .inl f_now_cells)), (h_slots, .inr (2, [.ref h_slots_cells, .int 2])), (h_slots_cells, .inl (cI, 800, .inl u.1)), (h_saved, .inl (cZ, 2, .inl u.2))]) :=
  x_enterX (cc := cX4_save) (maxL := 2) (ret := (some .int)) (own := RX4) (by decide) rfl rfl (Nat.le_of_ble_eq_true rfl) (fun p e s m below meth c ls C0 T0 hne hA hP hD hS hl => xb_X4_save_0 C0 hA T0 hl0 hne _ _ _ hk s.heap [] ls hP hD hS hl)
set_option maxRecDepth 20000 in
theorem xw_X4_restore_IO : ∀ w ∈ (vx_atS RX4 101 xIO xNm).filter goodWord, w ∈ wsX4_restore := by decide +kernel
set_option maxRecDepth 20000 in
theorem xw_X4_restore_IS : ∀ w ∈ (vx_atS RX4 64 xIS xNm).filter goodWord, w ∈ wsX4_restore := by decide +kernel
set_option maxRecDepth 20000 in
theorem xin_X4_restore_X4 : ∀ w ∈ u_ws RX4 TX4 9, w ∈ wsX4_restore := by decide +kernel
set_option maxRecDepth 20000 in
theorem xin_X4_restore_X3 : ∀ w ∈ u_ws RX3 TX3 1, w ∈ wsX4_restore := by decide +kernel
set_option maxRecDepth 20000 in
theorem xin_X4_restore_X2 : ∀ w ∈ u_ws RX2 TX2 2, w ∈ wsX4_restore := by decide +kernel
set_option maxHeartbeats 4000000 in
set_option maxRecDepth 100000 in
theorem xb_X4_restore_9 {p : Program} {l : Launch} {e : Env} {s : State} {m : MethodId} {args : Array Value} {below : List Frame} {meth : Method} {c : Code} {A : Nat → Prop} {D : va_G} {cI cC cZ cL : ClassId} {sf : Nat → Nat} {tL tH : Nat} {h h_now h_copy h_past h_slots h_saved h_text h_shown h_now_cells h_slots_cells : Nat}  {f_slots_cells : Nat → Int32} {f_saved : Nat → Int32} {K : Int32 → ((Nat → Int32) × Int32 × Int32) → Prop} {KX : String → ((Nat → Int32) × Int32 × Int32) → Prop}  (C0 : xC p s m args meth c cX4_restore 2 (some .int) wsX4_restore RX4 D (xTY cI cC cZ cL)) (hA : ∀ q : Nat, s.heap.size ≤ q → A q) (T0 : xT sf tL tH A s s.heap) (hl0 : l.stackTraces = false) (hne : ∀ x ∈ c.exceptionTable.toList, False)  : ∀ (f_now_cells : Nat → Int32) (f_remembered : Int32) (f_oldest : Int32) , xp_X4_restore_9 f_slots_cells f_saved K KX f_now_cells f_remembered f_oldest → ∀ (H : Heap) (locs : List Loc) (ls : Array Slot), va_P D vwCl [(h, .inr (4, [.ref h_now, .ref h_copy, .ref h_past, .ref h_slots, .ref h_saved, .ref h_text, .ref h_shown, .int f_remembered, .int f_oldest])), (h_now, .inr (3, [.ref h_now_cells])), (h_now_cells, .inl (cI, 400, .inl f_now_cells)), (h_slots, .inr (2, [.ref h_slots_cells, .int 2])), (h_slots_cells, .inl (cI, 800, .inl f_slots_cells)), (h_saved, .inl (cZ, 2, .inl f_saved))] H → va_D A [(h, .inr (4, [.ref h_now, .ref h_copy, .ref h_past, .ref h_slots, .ref h_saved, .ref h_text, .ref h_shown, .int f_remembered, .int f_oldest])), (h_now, .inr (3, [.ref h_now_cells])), (h_now_cells, .inl (cI, 400, .inl f_now_cells)), (h_slots, .inr (2, [.ref h_slots_cells, .int 2])), (h_slots_cells, .inl (cI, 800, .inl f_slots_cells)), (h_saved, .inl (cZ, 2, .inl f_saved))] → va_S A s.heap H locs → lv_has ls 2 [] → W p l e ({ frames := 6, cells := 1, slots := 6, locals := 92 } : Room) s m args below meth c H locs 0 0 (vx_MQ below (va_Qi (fun (r : Int32) (u : (Nat → Int32) × Int32 × Int32) => K r u) (fun u t => xE D A ((fun (u : (Nat → Int32) × Int32 × Int32) => [(h, .inr (4, [.ref h_now, .ref h_copy, .ref h_past, .ref h_slots, .ref h_saved, .ref h_text, .ref h_shown, .int u.2.1, .int u.2.2])), (h_now, .inr (3, [.ref h_now_cells])), (h_now_cells, .inl (cI, 400, .inl u.1)), (h_slots, .inr (2, [.ref h_slots_cells, .int 2])), (h_slots_cells, .inl (cI, 800, .inl f_slots_cells)), (h_saved, .inl (cZ, 2, .inl f_saved))]) u) t) A) (vx_X (fun (_ : (Nat → Int32) × Int32 × Int32) => True) (fun E u t => ((fun (E : String) (u : (Nat → Int32) × Int32 × Int32) => KX E u) E u) ∧ xE D A ((fun (u : (Nat → Int32) × Int32 × Int32) => [(h, .inr (4, [.ref h_now, .ref h_copy, .ref h_past, .ref h_slots, .ref h_saved, .ref h_text, .ref h_shown, .int u.2.1, .int u.2.2])), (h_now, .inr (3, [.ref h_now_cells])), (h_now_cells, .inl (cI, 400, .inl u.1)), (h_slots, .inr (2, [.ref h_slots_cells, .int 2])), (h_slots_cells, .inl (cI, 800, .inl f_slots_cells)), (h_saved, .inl (cZ, 2, .inl f_saved))]) u) t) A) args s 1 6 A) (F0 m 9 ls []) := by
  obtain ⟨hx, hb, hr, hml, hown, hts, hlocks, hK, hN⟩ := id C0
  intro f_now_cells f_remembered f_oldest hk H locs ls hP hD hS hl
  rw [xp_X4_restore_9] at hk
  exact x_thrW (text := "there is no such save slot") C0 T0 hl0 hne (f_now_cells, f_remembered, f_oldest) hk hP hD hS hl.1 (by decide +kernel) (by decide +kernel) (by decide +kernel) xw_X4_restore_IO x_ngIO x_otIO (by decide +kernel) (by decide) (Nat.le_of_ble_eq_true rfl) (by decide) (by decide) dX4_restore_9 dX4_restore_12 dX4_restore_13 dX4_restore_16 dX4_restore_19
set_option maxHeartbeats 4000000 in
set_option maxRecDepth 100000 in
theorem xb_X4_restore_0 {p : Program} {l : Launch} {e : Env} {s : State} {m : MethodId} {args : Array Value} {below : List Frame} {meth : Method} {c : Code} {A : Nat → Prop} {D : va_G} {cI cC cZ cL : ClassId} {sf : Nat → Nat} {tL tH : Nat} {h h_now h_copy h_past h_slots h_saved h_text h_shown h_now_cells h_slots_cells : Nat}  {f_slots_cells : Nat → Int32} {f_saved : Nat → Int32} {K : Int32 → ((Nat → Int32) × Int32 × Int32) → Prop} {KX : String → ((Nat → Int32) × Int32 × Int32) → Prop}  (C0 : xC p s m args meth c cX4_restore 2 (some .int) wsX4_restore RX4 D (xTY cI cC cZ cL)) (hA : ∀ q : Nat, s.heap.size ≤ q → A q) (T0 : xT sf tL tH A s s.heap) (hl0 : l.stackTraces = false) (hne : ∀ x ∈ c.exceptionTable.toList, False)  : ∀ (f_now_cells : Nat → Int32) (f_remembered : Int32) (f_oldest : Int32) (x1 : Int32) , xp_X4_restore f_slots_cells f_saved f_now_cells f_remembered f_oldest x1 K KX → ∀ (H : Heap) (locs : List Loc) (ls : Array Slot), va_P D vwCl [(h, .inr (4, [.ref h_now, .ref h_copy, .ref h_past, .ref h_slots, .ref h_saved, .ref h_text, .ref h_shown, .int f_remembered, .int f_oldest])), (h_now, .inr (3, [.ref h_now_cells])), (h_now_cells, .inl (cI, 400, .inl f_now_cells)), (h_slots, .inr (2, [.ref h_slots_cells, .int 2])), (h_slots_cells, .inl (cI, 800, .inl f_slots_cells)), (h_saved, .inl (cZ, 2, .inl f_saved))] H → va_D A [(h, .inr (4, [.ref h_now, .ref h_copy, .ref h_past, .ref h_slots, .ref h_saved, .ref h_text, .ref h_shown, .int f_remembered, .int f_oldest])), (h_now, .inr (3, [.ref h_now_cells])), (h_now_cells, .inl (cI, 400, .inl f_now_cells)), (h_slots, .inr (2, [.ref h_slots_cells, .int 2])), (h_slots_cells, .inl (cI, 800, .inl f_slots_cells)), (h_saved, .inl (cZ, 2, .inl f_saved))] → va_S A s.heap H locs → lv_has ls 2 [(0, .ref h), (1, .int x1)] → W p l e ({ frames := 6, cells := 1, slots := 6, locals := 92 } : Room) s m args below meth c H locs 0 0 (vx_MQ below (va_Qi (fun (r : Int32) (u : (Nat → Int32) × Int32 × Int32) => K r u) (fun u t => xE D A ((fun (u : (Nat → Int32) × Int32 × Int32) => [(h, .inr (4, [.ref h_now, .ref h_copy, .ref h_past, .ref h_slots, .ref h_saved, .ref h_text, .ref h_shown, .int u.2.1, .int u.2.2])), (h_now, .inr (3, [.ref h_now_cells])), (h_now_cells, .inl (cI, 400, .inl u.1)), (h_slots, .inr (2, [.ref h_slots_cells, .int 2])), (h_slots_cells, .inl (cI, 800, .inl f_slots_cells)), (h_saved, .inl (cZ, 2, .inl f_saved))]) u) t) A) (vx_X (fun (_ : (Nat → Int32) × Int32 × Int32) => True) (fun E u t => ((fun (E : String) (u : (Nat → Int32) × Int32 × Int32) => KX E u) E u) ∧ xE D A ((fun (u : (Nat → Int32) × Int32 × Int32) => [(h, .inr (4, [.ref h_now, .ref h_copy, .ref h_past, .ref h_slots, .ref h_saved, .ref h_text, .ref h_shown, .int u.2.1, .int u.2.2])), (h_now, .inr (3, [.ref h_now_cells])), (h_now_cells, .inl (cI, 400, .inl u.1)), (h_slots, .inr (2, [.ref h_slots_cells, .int 2])), (h_slots_cells, .inl (cI, 800, .inl f_slots_cells)), (h_saved, .inl (cZ, 2, .inl f_saved))]) u) t) A) args s 1 6 A) (F0 m 0 ls []) := by
  obtain ⟨hx, hb, hr, hml, hown, hts, hlocks, hK, hN⟩ := id C0
  intro f_now_cells f_remembered f_oldest x1 hk H locs ls hP hD hS hl
  rw [xp_X4_restore] at hk
  refine lv_iload_n hx hb dX4_restore_0 rfl (lv_at hl 1 rfl) ?_
  refine lv_if_lt (tgt := 9) hx hb dX4_restore_1 (by decide) (fun c1 => ?_) (fun c1 => ?_)
  · have hk := hk.1 c1
    exact xb_X4_restore_9 C0 hA T0 hl0 hne  _ _ _ hk H locs ls hP hD hS (lv_sub hl [] rfl)
  · have hk := hk.2 c1
    refine lv_iload_n hx hb dX4_restore_4 rfl (lv_at hl 1 rfl) ?_
    refine lv_iconst (v := 2) hx hb dX4_restore_5 (by decide) ?_
    refine lv_icmp_lt (tgt := 20) hx hb dX4_restore_6 (by decide) (fun c2 => ?_) (fun c2 => ?_)
    · have hk := hk.1 c2
      refine lv_aload_n hx hb dX4_restore_20 rfl (lv_at hl 0 rfl) ?_
      refine va_get (D := D) (ci := 4) (v := .ref h_saved) (C := RX4) (T := TX4) (N := 9) hx hb hts xin_X4_restore_X4 hown hK hP 0 rfl rfl 4 (by decide) (hts (.fieldLink RX4 31 "TakeLog" "saved" "[Z") (by decide +kernel)) (fun _ h9 => h9) rfl dX4_restore_21 ?_
      refine lv_iload_n hx hb dX4_restore_24 rfl (lv_at hl 1 rfl) ?_
      refine x_zald hx hb hK hP 5 2 rfl rfl hk.1 rfl rfl dX4_restore_25 ?_
      have hk := hk.2
      refine lv_if_ne (tgt := 40) hx hb dX4_restore_26 (by decide) (fun c3 => ?_) (fun c3 => ?_)
      · have hk := hk.1 c3
        refine lv_aload_n hx hb dX4_restore_40 rfl (lv_at hl 0 rfl) ?_
        refine va_get (D := D) (ci := 4) (v := .ref h_slots) (C := RX4) (T := TX4) (N := 9) hx hb hts xin_X4_restore_X4 hown hK hP 0 rfl rfl 3 (by decide) (hts (.fieldLink RX4 28 "TakeLog" "slots" "LTakeLog$Shelf;") (by decide +kernel)) (fun _ h9 => h9) rfl dX4_restore_41 ?_
        refine lv_iload_n hx hb dX4_restore_44 rfl (lv_at hl 1 rfl) ?_
        refine lv_aload_n hx hb dX4_restore_45 rfl (lv_at hl 0 rfl) ?_
        refine va_get (D := D) (ci := 4) (v := .ref h_now) (C := RX4) (T := TX4) (N := 9) hx hb hts xin_X4_restore_X4 hown hK hP 0 rfl rfl 0 (by decide) (hts (.fieldLink RX4 12 "TakeLog" "now" "LTakeLog$State;") (by decide +kernel)) (fun _ h9 => h9) rfl dX4_restore_46 ?_
        refine x_joinv (ws1 := fun (u4 : (Nat → Int32)) => [(h, .inr (4, [.ref h_now, .ref h_copy, .ref h_past, .ref h_slots, .ref h_saved, .ref h_text, .ref h_shown, .int f_remembered, .int f_oldest])), (h_now, .inr (3, [.ref h_now_cells])), (h_now_cells, .inl (cI, 400, .inl u4)), (h_slots, .inr (2, [.ref h_slots_cells, .int 2])), (h_slots_cells, .inl (cI, 800, .inl f_slots_cells)), (h_saved, .inl (cZ, 2, .inl f_saved))]) (x_runV (n0 := 2) (As := [.int x1, .ref h_now]) (rest := []) C0 (xc_X2_fetch l D cI cC cZ cL h_slots h_slots_cells h_now h_now_cells 800 H.size 2 f_slots_cells f_now_cells x1 _ hk) gX4_restore_X2_fetch rfl ⟨rfl, rfl⟩ (by decide +kernel) rfl ⟨by decide, by decide⟩ ⟨Nat.zero_le _, Nat.zero_le _⟩ hP hD [3, 4, 1, 2] rfl rfl (k := 3) rfl rfl rfl hl.1 rfl (Nat.le_of_ble_eq_true rfl) dX4_restore_49) hP hD hS hA [3, 4, 1, 2] [0, 5] [0, 4, 5, 2, 3, 1] rfl rfl rfl (by decide) (fun _ => rfl) rfl (fun u4 H locs hk hP hD hS => ?_)
        refine lv_aload_n hx hb dX4_restore_52 rfl (lv_at hl 0 rfl) ?_
        refine x_joinv (ws1 := fun (u5 : Int32 × Int32) => [(h, .inr (4, [.ref h_now, .ref h_copy, .ref h_past, .ref h_slots, .ref h_saved, .ref h_text, .ref h_shown, .int u5.1, .int u5.2])), (h_now, .inr (3, [.ref h_now_cells])), (h_now_cells, .inl (cI, 400, .inl u4)), (h_slots, .inr (2, [.ref h_slots_cells, .int 2])), (h_slots_cells, .inl (cI, 800, .inl f_slots_cells)), (h_saved, .inl (cZ, 2, .inl f_saved))]) (x_runV (n0 := 0) (As := []) (rest := []) C0 (xc_X4_forget l D cI cC cZ cL h h_now h_copy h_past h_slots h_saved h_text h_shown H.size f_remembered f_oldest _ hk) gX4_restore_X4_forget rfl ⟨rfl, rfl⟩ (by decide +kernel) rfl ⟨by decide, by decide⟩ ⟨Nat.zero_le _, Nat.zero_le _⟩ hP hD [0] rfl rfl (k := 0) rfl rfl rfl hl.1 rfl (Nat.le_of_ble_eq_true rfl) dX4_restore_53) hP hD hS hA [0] [1, 2, 3, 4, 5] [5, 0, 1, 2, 3, 4] rfl rfl rfl (by decide) (fun _ => rfl) rfl (fun u5 H locs hk hP hD hS => ?_)
        refine lv_aload_n hx hb dX4_restore_56 rfl (lv_at hl 0 rfl) ?_
        refine va_get (D := D) (ci := 4) (v := .ref h_now) (C := RX4) (T := TX4) (N := 9) hx hb hts xin_X4_restore_X4 hown hK hP 0 rfl rfl 0 (by decide) (hts (.fieldLink RX4 12 "TakeLog" "now" "LTakeLog$State;") (by decide +kernel)) (fun _ h9 => h9) rfl dX4_restore_57 ?_
        refine x_joini (ws1 := fun (_ : Unit) => [(h, .inr (4, [.ref h_now, .ref h_copy, .ref h_past, .ref h_slots, .ref h_saved, .ref h_text, .ref h_shown, .int u5.1, .int u5.2])), (h_now, .inr (3, [.ref h_now_cells])), (h_now_cells, .inl (cI, 400, .inl u4)), (h_slots, .inr (2, [.ref h_slots_cells, .int 2])), (h_slots_cells, .inl (cI, 800, .inl f_slots_cells)), (h_saved, .inl (cZ, 2, .inl f_saved))]) (x_runV (n0 := 0) (As := []) (rest := []) C0 (xc_X3_takes l D cI cC cZ cL h_now h_now_cells H.size u4 _ hk) gX4_restore_X3_takes rfl ⟨rfl, rfl⟩ (by decide +kernel) rfl ⟨by decide, by decide⟩ ⟨Nat.zero_le _, Nat.zero_le _⟩ hP hD [1, 2] rfl rfl (k := 1) rfl rfl rfl hl.1 rfl (Nat.le_of_ble_eq_true rfl) dX4_restore_60) hP hD hS hA [1, 2] [0, 3, 4, 5] [0, 4, 5, 1, 2, 3] rfl rfl rfl (by decide) (fun _ => rfl) rfl (fun r6 u6 H locs hk hP hD hS => ?_)
        exact x_retiX C0 (u4, u5.1, u5.2) hk hP hD hS dX4_restore_63
      · have hk := hk.2 c3
        exact x_thrW (text := "nothing has been saved in this slot") C0 T0 hl0 hne (f_now_cells, f_remembered, f_oldest) hk hP hD hS hl.1 (by decide +kernel) (by decide +kernel) (by decide +kernel) xw_X4_restore_IS x_ngIS x_otIS (by decide +kernel) (by decide) (Nat.le_of_ble_eq_true rfl) (by decide) (by decide) dX4_restore_29 dX4_restore_32 dX4_restore_33 dX4_restore_36 dX4_restore_39
    · have hk := hk.2 c2
      exact xb_X4_restore_9 C0 hA T0 hl0 hne  _ _ _ hk H locs ls hP hD hS (lv_sub hl [] rfl)
theorem xc_X4_restore (l : Launch) (hl0 : l.stackTraces = false) (D : va_G) (cI cC cZ cL : ClassId) (sf : Nat → Nat) (tL tH : Nat) (h h_now h_copy h_past h_slots h_saved h_text h_shown h_now_cells h_slots_cells : Nat)  (sz : Nat) (f_remembered : Int32) (f_oldest : Int32) (f_now_cells : Nat → Int32) (f_slots_cells : Nat → Int32) (f_saved : Nat → Int32) (x1 : Int32) (K : Int32 → ((Nat → Int32) × Int32 × Int32) → Prop) (KX : String → ((Nat → Int32) × Int32 × Int32) → Prop) (hk : xp_X4_restore f_slots_cells f_saved f_now_cells f_remembered f_oldest x1 K KX) : XMx l yX4_restore wsX4_restore ({ frames := 6, cells := 1, slots := 6, locals := 92 } : Room) D (xTY cI cC cZ cL) sf tL tH [.ref h, .int x1] [(h, .inr (4, [.ref h_now, .ref h_copy, .ref h_past, .ref h_slots, .ref h_saved, .ref h_text, .ref h_shown, .int f_remembered, .int f_oldest])), (h_now, .inr (3, [.ref h_now_cells])), (h_now_cells, .inl (cI, 400, .inl f_now_cells)), (h_slots, .inr (2, [.ref h_slots_cells, .int 2])), (h_slots_cells, .inl (cI, 800, .inl f_slots_cells)), (h_saved, .inl (cZ, 2, .inl f_saved))] sz (fun (r : Int32) (u : (Nat → Int32) × Int32 × Int32) => K r u) (fun (E : String) (u : (Nat → Int32) × Int32 × Int32) => KX E u) (fun (u : (Nat → Int32) × Int32 × Int32) => [(h, .inr (4, [.ref h_now, .ref h_copy, .ref h_past, .ref h_slots, .ref h_saved, .ref h_text, .ref h_shown, .int u.2.1, .int u.2.2])), (h_now, .inr (3, [.ref h_now_cells])), (h_now_cells, .inl (cI, 400, .inl u.1)), (h_slots, .inr (2, [.ref h_slots_cells, .int 2])), (h_slots_cells, .inl (cI, 800, .inl f_slots_cells)), (h_saved, .inl (cZ, 2, .inl f_saved))]) :=
  x_enterX (cc := cX4_restore) (maxL := 2) (ret := (some .int)) (own := RX4) (by decide) rfl rfl (Nat.le_of_ble_eq_true rfl) (fun p e s m below meth c ls C0 T0 hne hA hP hD hS hl => xb_X4_restore_0 C0 hA T0 hl0 hne _ _ _ _ hk s.heap [] ls hP hD hS hl)
