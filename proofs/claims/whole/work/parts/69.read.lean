/-! ===== reading behind a step ===== -/
section RD
variable {M : hM}
theorem z_fl_pi {f a : Nat} {v : Int32} : h_fl (h_pi M f a v) = h_fl M := rfl
theorem z_fr_pi {f a : Nat} {v : Int32} : h_fr (h_pi M f a v) = h_fr M := rfl
theorem z_ai_pi {f a : Nat} {v : Int32} : h_ai (h_pi M f a v) = h_ai M := rfl
theorem z_al_pi {f a : Nat} {v : Int32} : h_al (h_pi M f a v) = h_al M := rfl
theorem z_ar_pi {f a : Nat} {v : Int32} : h_ar (h_pi M f a v) = h_ar M := rfl
theorem z_ln_pi {f a : Nat} {v : Int32} : h_ln (h_pi M f a v) = h_ln M := rfl
theorem z_tg_pi {f a : Nat} {v : Int32} : h_tg (h_pi M f a v) = h_tg M := rfl
theorem z_sz_pi {f a : Nat} {v : Int32} : h_sz (h_pi M f a v) = h_sz M := rfl
theorem z_sl_pi {f a : Nat} {v : Int32} : h_sl (h_pi M f a v) = h_sl M := rfl
theorem z_fi_pl {f a : Nat} {v : Int64} : h_fi (h_pl M f a v) = h_fi M := rfl
theorem z_fr_pl {f a : Nat} {v : Int64} : h_fr (h_pl M f a v) = h_fr M := rfl
theorem z_ai_pl {f a : Nat} {v : Int64} : h_ai (h_pl M f a v) = h_ai M := rfl
theorem z_al_pl {f a : Nat} {v : Int64} : h_al (h_pl M f a v) = h_al M := rfl
theorem z_ar_pl {f a : Nat} {v : Int64} : h_ar (h_pl M f a v) = h_ar M := rfl
theorem z_ln_pl {f a : Nat} {v : Int64} : h_ln (h_pl M f a v) = h_ln M := rfl
theorem z_tg_pl {f a : Nat} {v : Int64} : h_tg (h_pl M f a v) = h_tg M := rfl
theorem z_sz_pl {f a : Nat} {v : Int64} : h_sz (h_pl M f a v) = h_sz M := rfl
theorem z_sl_pl {f a : Nat} {v : Int64} : h_sl (h_pl M f a v) = h_sl M := rfl
theorem z_fi_pr {f a : Nat} {v : Option Nat} : h_fi (h_pr M f a v) = h_fi M := rfl
theorem z_fl_pr {f a : Nat} {v : Option Nat} : h_fl (h_pr M f a v) = h_fl M := rfl
theorem z_ai_pr {f a : Nat} {v : Option Nat} : h_ai (h_pr M f a v) = h_ai M := rfl
theorem z_al_pr {f a : Nat} {v : Option Nat} : h_al (h_pr M f a v) = h_al M := rfl
theorem z_ar_pr {f a : Nat} {v : Option Nat} : h_ar (h_pr M f a v) = h_ar M := rfl
theorem z_ln_pr {f a : Nat} {v : Option Nat} : h_ln (h_pr M f a v) = h_ln M := rfl
theorem z_tg_pr {f a : Nat} {v : Option Nat} : h_tg (h_pr M f a v) = h_tg M := rfl
theorem z_sz_pr {f a : Nat} {v : Option Nat} : h_sz (h_pr M f a v) = h_sz M := rfl
theorem z_sl_pr {f a : Nat} {v : Option Nat} : h_sl (h_pr M f a v) = h_sl M := rfl
theorem z_fi_qi {a i : Nat} {v : Int32} : h_fi (h_qi M a i v) = h_fi M := rfl
theorem z_fl_qi {a i : Nat} {v : Int32} : h_fl (h_qi M a i v) = h_fl M := rfl
theorem z_fr_qi {a i : Nat} {v : Int32} : h_fr (h_qi M a i v) = h_fr M := rfl
theorem z_al_qi {a i : Nat} {v : Int32} : h_al (h_qi M a i v) = h_al M := rfl
theorem z_ar_qi {a i : Nat} {v : Int32} : h_ar (h_qi M a i v) = h_ar M := rfl
theorem z_ln_qi {a i : Nat} {v : Int32} : h_ln (h_qi M a i v) = h_ln M := rfl
theorem z_tg_qi {a i : Nat} {v : Int32} : h_tg (h_qi M a i v) = h_tg M := rfl
theorem z_sz_qi {a i : Nat} {v : Int32} : h_sz (h_qi M a i v) = h_sz M := rfl
theorem z_sl_qi {a i : Nat} {v : Int32} : h_sl (h_qi M a i v) = h_sl M := rfl
theorem z_fi_ql {a i : Nat} {v : Int64} : h_fi (h_ql M a i v) = h_fi M := rfl
theorem z_fl_ql {a i : Nat} {v : Int64} : h_fl (h_ql M a i v) = h_fl M := rfl
theorem z_fr_ql {a i : Nat} {v : Int64} : h_fr (h_ql M a i v) = h_fr M := rfl
theorem z_ai_ql {a i : Nat} {v : Int64} : h_ai (h_ql M a i v) = h_ai M := rfl
theorem z_ar_ql {a i : Nat} {v : Int64} : h_ar (h_ql M a i v) = h_ar M := rfl
theorem z_ln_ql {a i : Nat} {v : Int64} : h_ln (h_ql M a i v) = h_ln M := rfl
theorem z_tg_ql {a i : Nat} {v : Int64} : h_tg (h_ql M a i v) = h_tg M := rfl
theorem z_sz_ql {a i : Nat} {v : Int64} : h_sz (h_ql M a i v) = h_sz M := rfl
theorem z_sl_ql {a i : Nat} {v : Int64} : h_sl (h_ql M a i v) = h_sl M := rfl
theorem z_fi_qr {a i : Nat} {v : Option Nat} : h_fi (h_qr M a i v) = h_fi M := rfl
theorem z_fl_qr {a i : Nat} {v : Option Nat} : h_fl (h_qr M a i v) = h_fl M := rfl
theorem z_fr_qr {a i : Nat} {v : Option Nat} : h_fr (h_qr M a i v) = h_fr M := rfl
theorem z_ai_qr {a i : Nat} {v : Option Nat} : h_ai (h_qr M a i v) = h_ai M := rfl
theorem z_al_qr {a i : Nat} {v : Option Nat} : h_al (h_qr M a i v) = h_al M := rfl
theorem z_ln_qr {a i : Nat} {v : Option Nat} : h_ln (h_qr M a i v) = h_ln M := rfl
theorem z_tg_qr {a i : Nat} {v : Option Nat} : h_tg (h_qr M a i v) = h_tg M := rfl
theorem z_sz_qr {a i : Nat} {v : Option Nat} : h_sz (h_qr M a i v) = h_sz M := rfl
theorem z_sl_qr {a i : Nat} {v : Option Nat} : h_sl (h_qr M a i v) = h_sl M := rfl
theorem z_fi_ca {a : Nat} {g : Nat → Int32} : h_fi (h_ca M a g) = h_fi M := rfl
theorem z_fl_ca {a : Nat} {g : Nat → Int32} : h_fl (h_ca M a g) = h_fl M := rfl
theorem z_fr_ca {a : Nat} {g : Nat → Int32} : h_fr (h_ca M a g) = h_fr M := rfl
theorem z_al_ca {a : Nat} {g : Nat → Int32} : h_al (h_ca M a g) = h_al M := rfl
theorem z_ar_ca {a : Nat} {g : Nat → Int32} : h_ar (h_ca M a g) = h_ar M := rfl
theorem z_ln_ca {a : Nat} {g : Nat → Int32} : h_ln (h_ca M a g) = h_ln M := rfl
theorem z_tg_ca {a : Nat} {g : Nat → Int32} : h_tg (h_ca M a g) = h_tg M := rfl
theorem z_sz_ca {a : Nat} {g : Nat → Int32} : h_sz (h_ca M a g) = h_sz M := rfl
theorem z_sl_ca {a : Nat} {g : Nat → Int32} : h_sl (h_ca M a g) = h_sl M := rfl
theorem y_pi {f a j b : Nat} {v : Int32} : h_fi (h_pi M f a v) j b = if j = f ∧ b = a then v else h_fi M j b := rfl
theorem y_pl {f a j b : Nat} {v : Int64} : h_fl (h_pl M f a v) j b = if j = f ∧ b = a then v else h_fl M j b := rfl
theorem y_pr {f a j b : Nat} {v : Option Nat} : h_fr (h_pr M f a v) j b = if j = f ∧ b = a then v else h_fr M j b := rfl
theorem y_qi {a i b j : Nat} {v : Int32} : h_ai (h_qi M a i v) b j = if b = a ∧ j = i then v else h_ai M b j := rfl
theorem y_ql {a i b j : Nat} {v : Int64} : h_al (h_ql M a i v) b j = if b = a ∧ j = i then v else h_al M b j := rfl
theorem y_qr {a i b j : Nat} {v : Option Nat} : h_ar (h_qr M a i v) b j = if b = a ∧ j = i then v else h_ar M b j := rfl
theorem y_ca {a b j : Nat} {g : Nat → Int32} : h_ai (h_ca M a g) b j = if b = a then g j else h_ai M b j := rfl
end RD
