def St_program (Sim : mSt → mSt → Prop) : Prop := ∀ (a1 a2 a3 a4 : Int32) (u v : mSt), Sim u v → ∃ (n1 : Nat) (z1 : Int32 × mSt) (n2 : Nat) (z2 : Int32 × mSt), fX7_program n1 a1 a2 a3 a4 u.1 u.2 = some z1 ∧ fX8_program n2 a1 a2 a3 a4 v.1 v.2 = some z2 ∧ z1.1 = z2.1 ∧ Sim z1.2 z2.2
def Sv_program (Sim : mSt → mSt → Prop) : Prop := ∀ (a1 a2 a3 a4 : Int32) (u v : mSt), Sim u v → ∃ (n1 : Nat) (z1 : Int32 × mSt) (n2 : Nat) (z2 : Int32 × mSt), fX7_program n1 a1 a2 a3 a4 u.1 u.2 = some z1 ∧ fX8_program n2 a1 a2 a3 a4 v.1 v.2 = some z2 ∧ Sim z1.2 z2.2
def St_ofRule (Sim : mSt → mSt → Prop) : Prop := ∀ (a1 a2 : Int32) (u v : mSt), Sim u v → ∃ (n1 : Nat) (z1 : Int32 × mSt) (n2 : Nat) (z2 : Int32 × mSt), fX7_ofRule n1 a1 a2 u.1 u.2 = some z1 ∧ fX8_ofRule n2 a1 a2 v.1 v.2 = some z2 ∧ z1.1 = z2.1 ∧ Sim z1.2 z2.2
def Sv_ofRule (Sim : mSt → mSt → Prop) : Prop := ∀ (a1 a2 : Int32) (u v : mSt), Sim u v → ∃ (n1 : Nat) (z1 : Int32 × mSt) (n2 : Nat) (z2 : Int32 × mSt), fX7_ofRule n1 a1 a2 u.1 u.2 = some z1 ∧ fX8_ofRule n2 a1 a2 v.1 v.2 = some z2 ∧ Sim z1.2 z2.2
def St_ofRelation (Sim : mSt → mSt → Prop) : Prop := ∀ (a1 a2 : Int32) (u v : mSt), Sim u v → ∃ (n1 : Nat) (z1 : Int32 × mSt) (n2 : Nat) (z2 : Int32 × mSt), fX7_ofRelation n1 a1 a2 u.1 u.2 = some z1 ∧ fX8_ofRelation n2 a1 a2 v.1 v.2 = some z2 ∧ z1.1 = z2.1 ∧ Sim z1.2 z2.2
def Sv_ofRelation (Sim : mSt → mSt → Prop) : Prop := ∀ (a1 a2 : Int32) (u v : mSt), Sim u v → ∃ (n1 : Nat) (z1 : Int32 × mSt) (n2 : Nat) (z2 : Int32 × mSt), fX7_ofRelation n1 a1 a2 u.1 u.2 = some z1 ∧ fX8_ofRelation n2 a1 a2 v.1 v.2 = some z2 ∧ Sim z1.2 z2.2
def St_form (Sim : mSt → mSt → Prop) : Prop := ∀ (a1 a2 : Int32) (u v : mSt), Sim u v → ∃ (n1 : Nat) (z1 : Int32 × mSt) (n2 : Nat) (z2 : Int32 × mSt), fX7_form n1 a1 a2 u.1 u.2 = some z1 ∧ fX8_form n2 a1 a2 v.1 v.2 = some z2 ∧ z1.1 = z2.1 ∧ Sim z1.2 z2.2
def Sv_form (Sim : mSt → mSt → Prop) : Prop := ∀ (a1 a2 : Int32) (u v : mSt), Sim u v → ∃ (n1 : Nat) (z1 : Int32 × mSt) (n2 : Nat) (z2 : Int32 × mSt), fX7_form n1 a1 a2 u.1 u.2 = some z1 ∧ fX8_form n2 a1 a2 v.1 v.2 = some z2 ∧ Sim z1.2 z2.2
def St_tell (Sim : mSt → mSt → Prop) : Prop := ∀ (a1 a2 a3 : Int32) (u v : mSt), Sim u v → ∃ (n1 : Nat) (z1 : Int32 × mSt) (n2 : Nat) (z2 : Int32 × mSt), fX7_tell n1 a1 a2 a3 u.1 u.2 = some z1 ∧ fX8_tell n2 a1 a2 a3 v.1 v.2 = some z2 ∧ z1.1 = z2.1 ∧ Sim z1.2 z2.2
def Sv_tell (Sim : mSt → mSt → Prop) : Prop := ∀ (a1 a2 a3 : Int32) (u v : mSt), Sim u v → ∃ (n1 : Nat) (z1 : Int32 × mSt) (n2 : Nat) (z2 : Int32 × mSt), fX7_tell n1 a1 a2 a3 u.1 u.2 = some z1 ∧ fX8_tell n2 a1 a2 a3 v.1 v.2 = some z2 ∧ Sim z1.2 z2.2
def St_ofFact (Sim : mSt → mSt → Prop) : Prop := ∀ (a1 a2 a3 a4 : Int32) (u v : mSt), Sim u v → ∃ (n1 : Nat) (z1 : Int32 × mSt) (n2 : Nat) (z2 : Int32 × mSt), fX7_ofFact n1 a1 a2 a3 a4 u.1 u.2 = some z1 ∧ fX8_ofFact n2 a1 a2 a3 a4 v.1 v.2 = some z2 ∧ z1.1 = z2.1 ∧ Sim z1.2 z2.2
def Sv_ofFact (Sim : mSt → mSt → Prop) : Prop := ∀ (a1 a2 a3 a4 : Int32) (u v : mSt), Sim u v → ∃ (n1 : Nat) (z1 : Int32 × mSt) (n2 : Nat) (z2 : Int32 × mSt), fX7_ofFact n1 a1 a2 a3 a4 u.1 u.2 = some z1 ∧ fX8_ofFact n2 a1 a2 a3 a4 v.1 v.2 = some z2 ∧ Sim z1.2 z2.2
def St_day (Sim : mSt → mSt → Prop) : Prop := ∀ (a1 a2 a3 a4 a5 : Int32) (u v : mSt), Sim u v → ∃ (n1 : Nat) (z1 : Int32 × mSt) (n2 : Nat) (z2 : Int32 × mSt), fX7_day n1 a1 a2 a3 a4 a5 u.1 u.2 = some z1 ∧ fX8_day n2 a1 a2 a3 a4 a5 v.1 v.2 = some z2 ∧ z1.1 = z2.1 ∧ Sim z1.2 z2.2
def Sv_day (Sim : mSt → mSt → Prop) : Prop := ∀ (a1 a2 a3 a4 a5 : Int32) (u v : mSt), Sim u v → ∃ (n1 : Nat) (z1 : Int32 × mSt) (n2 : Nat) (z2 : Int32 × mSt), fX7_day n1 a1 a2 a3 a4 a5 u.1 u.2 = some z1 ∧ fX8_day n2 a1 a2 a3 a4 a5 v.1 v.2 = some z2 ∧ Sim z1.2 z2.2
def St_rounds (Sim : mSt → mSt → Prop) : Prop := ∀ (u v : mSt), Sim u v → ∃ (n1 : Nat) (z1 : Int32 × mSt) (n2 : Nat) (z2 : Int32 × mSt), fX7_rounds n1 u.1 u.2 = some z1 ∧ fX8_rounds n2 v.1 v.2 = some z2 ∧ z1.1 = z2.1 ∧ Sim z1.2 z2.2
def Sv_rounds (Sim : mSt → mSt → Prop) : Prop := ∀ (u v : mSt), Sim u v → ∃ (n1 : Nat) (z1 : Int32 × mSt) (n2 : Nat) (z2 : Int32 × mSt), fX7_rounds n1 u.1 u.2 = some z1 ∧ fX8_rounds n2 v.1 v.2 = some z2 ∧ Sim z1.2 z2.2
def St_born (Sim : mSt → mSt → Prop) : Prop := ∀ (a1 : Int32) (u v : mSt), Sim u v → ∃ (n1 : Nat) (z1 : Int32 × mSt) (n2 : Nat) (z2 : Int32 × mSt), fX7_born n1 a1 u.1 u.2 = some z1 ∧ fX8_born n2 a1 v.1 v.2 = some z2 ∧ z1.1 = z2.1 ∧ Sim z1.2 z2.2
def Sv_born (Sim : mSt → mSt → Prop) : Prop := ∀ (a1 : Int32) (u v : mSt), Sim u v → ∃ (n1 : Nat) (z1 : Int32 × mSt) (n2 : Nat) (z2 : Int32 × mSt), fX7_born n1 a1 u.1 u.2 = some z1 ∧ fX8_born n2 a1 v.1 v.2 = some z2 ∧ Sim z1.2 z2.2
def St_ranked (Sim : mSt → mSt → Prop) : Prop := ∀ (a1 a2 : Int32) (u v : mSt), Sim u v → ∃ (n1 : Nat) (z1 : Int32 × mSt) (n2 : Nat) (z2 : Int32 × mSt), fX7_ranked n1 a1 a2 u.1 u.2 = some z1 ∧ fX8_ranked n2 a1 a2 v.1 v.2 = some z2 ∧ z1.1 = z2.1 ∧ Sim z1.2 z2.2
def Sv_ranked (Sim : mSt → mSt → Prop) : Prop := ∀ (a1 a2 : Int32) (u v : mSt), Sim u v → ∃ (n1 : Nat) (z1 : Int32 × mSt) (n2 : Nat) (z2 : Int32 × mSt), fX7_ranked n1 a1 a2 u.1 u.2 = some z1 ∧ fX8_ranked n2 a1 a2 v.1 v.2 = some z2 ∧ Sim z1.2 z2.2
def St_settled (Sim : mSt → mSt → Prop) : Prop := ∀ (a1 : Int32) (u v : mSt), Sim u v → ∃ (n1 : Nat) (z1 : Int32 × mSt) (n2 : Nat) (z2 : Int32 × mSt), fX7_settled n1 a1 u.1 u.2 = some z1 ∧ fX8_settled n2 a1 v.1 v.2 = some z2 ∧ z1.1 = z2.1 ∧ Sim z1.2 z2.2
def Sv_settled (Sim : mSt → mSt → Prop) : Prop := ∀ (a1 : Int32) (u v : mSt), Sim u v → ∃ (n1 : Nat) (z1 : Int32 × mSt) (n2 : Nat) (z2 : Int32 × mSt), fX7_settled n1 a1 u.1 u.2 = some z1 ∧ fX8_settled n2 a1 v.1 v.2 = some z2 ∧ Sim z1.2 z2.2
def St_demands (Sim : mSt → mSt → Prop) : Prop := ∀ (a1 a2 : Int32) (u v : mSt), Sim u v → ∃ (n1 : Nat) (z1 : Int32 × mSt) (n2 : Nat) (z2 : Int32 × mSt), fX7_demands n1 a1 a2 u.1 u.2 = some z1 ∧ fX8_demands n2 a1 a2 v.1 v.2 = some z2 ∧ z1.1 = z2.1 ∧ Sim z1.2 z2.2
def St_reading (Sim : mSt → mSt → Prop) : Prop := ∀ (a1 a2 a3 a4 : Int32) (u v : mSt), Sim u v → ∃ (n1 : Nat) (z1 : Int32 × mSt) (n2 : Nat) (z2 : Int32 × mSt), fX7_reading n1 a1 a2 a3 a4 u.1 u.2 = some z1 ∧ fX8_reading n2 a1 a2 a3 a4 v.1 v.2 = some z2 ∧ z1.1 = z2.1 ∧ Sim z1.2 z2.2
def Sv_reading (Sim : mSt → mSt → Prop) : Prop := ∀ (a1 a2 a3 a4 : Int32) (u v : mSt), Sim u v → ∃ (n1 : Nat) (z1 : Int32 × mSt) (n2 : Nat) (z2 : Int32 × mSt), fX7_reading n1 a1 a2 a3 a4 u.1 u.2 = some z1 ∧ fX8_reading n2 a1 a2 a3 a4 v.1 v.2 = some z2 ∧ Sim z1.2 z2.2
def St_back (Sim : mSt → mSt → Prop) : Prop := ∀ (a1 : Int32) (u v : mSt), Sim u v → ∃ (n1 : Nat) (z1 : Int32 × mSt) (n2 : Nat) (z2 : Int32 × mSt), fX7_back n1 a1 u.1 u.2 = some z1 ∧ fX8_back n2 a1 v.1 v.2 = some z2 ∧ z1.1 = z2.1 ∧ Sim z1.2 z2.2
def Sv_back (Sim : mSt → mSt → Prop) : Prop := ∀ (a1 : Int32) (u v : mSt), Sim u v → ∃ (n1 : Nat) (z1 : Int32 × mSt) (n2 : Nat) (z2 : Int32 × mSt), fX7_back n1 a1 u.1 u.2 = some z1 ∧ fX8_back n2 a1 v.1 v.2 = some z2 ∧ Sim z1.2 z2.2
def St_kinds (Sim : mSt → mSt → Prop) : Prop := ∀ (a1 : Int32) (u v : mSt), Sim u v → ∃ (n1 : Nat) (z1 : Int32 × mSt) (n2 : Nat) (z2 : Int32 × mSt), fX7_kinds n1 a1 u.1 u.2 = some z1 ∧ fX8_kinds n2 a1 v.1 v.2 = some z2 ∧ z1.1 = z2.1 ∧ Sim z1.2 z2.2
def Sv_kinds (Sim : mSt → mSt → Prop) : Prop := ∀ (a1 : Int32) (u v : mSt), Sim u v → ∃ (n1 : Nat) (z1 : Int32 × mSt) (n2 : Nat) (z2 : Int32 × mSt), fX7_kinds n1 a1 u.1 u.2 = some z1 ∧ fX8_kinds n2 a1 v.1 v.2 = some z2 ∧ Sim z1.2 z2.2
def St_forms (Sim : mSt → mSt → Prop) : Prop := ∀ (a1 : Int32) (u v : mSt), Sim u v → ∃ (n1 : Nat) (z1 : Int32 × mSt) (n2 : Nat) (z2 : Int32 × mSt), fX7_forms n1 a1 u.1 u.2 = some z1 ∧ fX8_forms n2 a1 v.1 v.2 = some z2 ∧ z1.1 = z2.1 ∧ Sim z1.2 z2.2
def Sv_forms (Sim : mSt → mSt → Prop) : Prop := ∀ (a1 : Int32) (u v : mSt), Sim u v → ∃ (n1 : Nat) (z1 : Int32 × mSt) (n2 : Nat) (z2 : Int32 × mSt), fX7_forms n1 a1 u.1 u.2 = some z1 ∧ fX8_forms n2 a1 v.1 v.2 = some z2 ∧ Sim z1.2 z2.2
def St_odds (Sim : mSt → mSt → Prop) : Prop := ∀ (a1 a2 : Int32) (u v : mSt), Sim u v → ∃ (n1 : Nat) (z1 : Int64 × mSt) (n2 : Nat) (z2 : Int64 × mSt), fX7_odds n1 a1 a2 u.1 u.2 = some z1 ∧ fX8_odds n2 a1 a2 v.1 v.2 = some z2 ∧ z1.1 = z2.1 ∧ Sim z1.2 z2.2
def Sv_odds (Sim : mSt → mSt → Prop) : Prop := ∀ (a1 a2 : Int32) (u v : mSt), Sim u v → ∃ (n1 : Nat) (z1 : Int64 × mSt) (n2 : Nat) (z2 : Int64 × mSt), fX7_odds n1 a1 a2 u.1 u.2 = some z1 ∧ fX8_odds n2 a1 a2 v.1 v.2 = some z2 ∧ Sim z1.2 z2.2
def St_sheet (Sim : mSt → mSt → Prop) : Prop := ∀ (a1 a2 a3 : Int32) (u v : mSt), Sim u v → ∃ (n1 : Nat) (z1 : Int32 × mSt) (n2 : Nat) (z2 : Int32 × mSt), fX7_sheet n1 a1 a2 a3 u.1 u.2 = some z1 ∧ fX8_sheet n2 a1 a2 a3 v.1 v.2 = some z2 ∧ z1.1 = z2.1 ∧ Sim z1.2 z2.2
def Sv_sheet (Sim : mSt → mSt → Prop) : Prop := ∀ (a1 a2 a3 : Int32) (u v : mSt), Sim u v → ∃ (n1 : Nat) (z1 : Int32 × mSt) (n2 : Nat) (z2 : Int32 × mSt), fX7_sheet n1 a1 a2 a3 u.1 u.2 = some z1 ∧ fX8_sheet n2 a1 a2 a3 v.1 v.2 = some z2 ∧ Sim z1.2 z2.2
def St_lose (Sim : mSt → mSt → Prop) : Prop := ∀ (a1 : Int32) (u v : mSt), Sim u v → ∃ (n1 : Nat) (z1 : Int32 × mSt) (n2 : Nat) (z2 : Int32 × mSt), fX7_lose n1 a1 u.1 u.2 = some z1 ∧ fX8_lose n2 a1 v.1 v.2 = some z2 ∧ z1.1 = z2.1 ∧ Sim z1.2 z2.2
def Sv_lose (Sim : mSt → mSt → Prop) : Prop := ∀ (a1 : Int32) (u v : mSt), Sim u v → ∃ (n1 : Nat) (z1 : Int32 × mSt) (n2 : Nat) (z2 : Int32 × mSt), fX7_lose n1 a1 u.1 u.2 = some z1 ∧ fX8_lose n2 a1 v.1 v.2 = some z2 ∧ Sim z1.2 z2.2
def St_put (Sim : mSt → mSt → Prop) : Prop := ∀ (a1 a2 a3 : Int32) (u v : mSt), Sim u v → ∃ (n1 : Nat) (z1 : Int32 × mSt) (n2 : Nat) (z2 : Int32 × mSt), fX7_put n1 a1 a2 a3 u.1 u.2 = some z1 ∧ fX8_put n2 a1 a2 a3 v.1 v.2 = some z2 ∧ z1.1 = z2.1 ∧ Sim z1.2 z2.2
def Sv_put (Sim : mSt → mSt → Prop) : Prop := ∀ (a1 a2 a3 : Int32) (u v : mSt), Sim u v → ∃ (n1 : Nat) (z1 : Int32 × mSt) (n2 : Nat) (z2 : Int32 × mSt), fX7_put n1 a1 a2 a3 u.1 u.2 = some z1 ∧ fX8_put n2 a1 a2 a3 v.1 v.2 = some z2 ∧ Sim z1.2 z2.2
def St_cell (Sim : mSt → mSt → Prop) : Prop := ∀ (a1 a2 a3 : Int32) (u v : mSt), Sim u v → ∃ (n1 : Nat) (z1 : Int64 × mSt) (n2 : Nat) (z2 : Int64 × mSt), fX7_cell n1 a1 a2 a3 u.1 u.2 = some z1 ∧ fX8_cell n2 a1 a2 a3 v.1 v.2 = some z2 ∧ z1.1 = z2.1 ∧ Sim z1.2 z2.2
def Sv_cell (Sim : mSt → mSt → Prop) : Prop := ∀ (a1 a2 a3 : Int32) (u v : mSt), Sim u v → ∃ (n1 : Nat) (z1 : Int64 × mSt) (n2 : Nat) (z2 : Int64 × mSt), fX7_cell n1 a1 a2 a3 u.1 u.2 = some z1 ∧ fX8_cell n2 a1 a2 a3 v.1 v.2 = some z2 ∧ Sim z1.2 z2.2
def St_copy (Sim : mSt → mSt → Prop) : Prop := ∀ (a1 a2 a3 a4 a5 : Int32) (u v : mSt), Sim u v → ∃ (n1 : Nat) (z1 : Int32 × mSt) (n2 : Nat) (z2 : Int32 × mSt), fX7_copy n1 a1 a2 a3 a4 a5 u.1 u.2 = some z1 ∧ fX8_copy n2 a1 a2 a3 a4 a5 v.1 v.2 = some z2 ∧ z1.1 = z2.1 ∧ Sim z1.2 z2.2
def Sv_copy (Sim : mSt → mSt → Prop) : Prop := ∀ (a1 a2 a3 a4 a5 : Int32) (u v : mSt), Sim u v → ∃ (n1 : Nat) (z1 : Int32 × mSt) (n2 : Nat) (z2 : Int32 × mSt), fX7_copy n1 a1 a2 a3 a4 a5 u.1 u.2 = some z1 ∧ fX8_copy n2 a1 a2 a3 a4 a5 v.1 v.2 = some z2 ∧ Sim z1.2 z2.2
def St_speak (Sim : mSt → mSt → Prop) : Prop := ∀ (a1 : Int32) (u v : mSt), Sim u v → ∃ (n1 : Nat) (z1 : Int32 × mSt) (n2 : Nat) (z2 : Int32 × mSt), fX7_speak n1 a1 u.1 u.2 = some z1 ∧ fX8_speak n2 a1 v.1 v.2 = some z2 ∧ z1.1 = z2.1 ∧ Sim z1.2 z2.2
def Sv_speak (Sim : mSt → mSt → Prop) : Prop := ∀ (a1 : Int32) (u v : mSt), Sim u v → ∃ (n1 : Nat) (z1 : Int32 × mSt) (n2 : Nat) (z2 : Int32 × mSt), fX7_speak n1 a1 u.1 u.2 = some z1 ∧ fX8_speak n2 a1 v.1 v.2 = some z2 ∧ Sim z1.2 z2.2
def St_quote (Sim : mSt → mSt → Prop) : Prop := ∀ (a1 : Int32) (u v : mSt), Sim u v → ∃ (n1 : Nat) (z1 : Int32 × mSt) (n2 : Nat) (z2 : Int32 × mSt), fX7_quote n1 a1 u.1 u.2 = some z1 ∧ fX8_quote n2 a1 v.1 v.2 = some z2 ∧ z1.1 = z2.1 ∧ Sim z1.2 z2.2
def Sv_quote (Sim : mSt → mSt → Prop) : Prop := ∀ (a1 : Int32) (u v : mSt), Sim u v → ∃ (n1 : Nat) (z1 : Int32 × mSt) (n2 : Nat) (z2 : Int32 × mSt), fX7_quote n1 a1 u.1 u.2 = some z1 ∧ fX8_quote n2 a1 v.1 v.2 = some z2 ∧ Sim z1.2 z2.2
def St_as (Sim : mSt → mSt → Prop) : Prop := ∀ (a1 a2 : Int32) (u v : mSt), Sim u v → ∃ (n1 : Nat) (z1 : Int32 × mSt) (n2 : Nat) (z2 : Int32 × mSt), fX7_as n1 a1 a2 u.1 u.2 = some z1 ∧ fX8_as n2 a1 a2 v.1 v.2 = some z2 ∧ z1.1 = z2.1 ∧ Sim z1.2 z2.2
def Sv_as (Sim : mSt → mSt → Prop) : Prop := ∀ (a1 a2 : Int32) (u v : mSt), Sim u v → ∃ (n1 : Nat) (z1 : Int32 × mSt) (n2 : Nat) (z2 : Int32 × mSt), fX7_as n1 a1 a2 u.1 u.2 = some z1 ∧ fX8_as n2 a1 a2 v.1 v.2 = some z2 ∧ Sim z1.2 z2.2
def St_trace (Sim : mSt → mSt → Prop) : Prop := ∀ (u v : mSt), Sim u v → ∃ (n1 : Nat) (z1 : Int32 × mSt) (n2 : Nat) (z2 : Int32 × mSt), fX7_trace n1 u.1 u.2 = some z1 ∧ fX8_trace n2 v.1 v.2 = some z2 ∧ z1.1 = z2.1 ∧ Sim z1.2 z2.2
def Sv_trace (Sim : mSt → mSt → Prop) : Prop := ∀ (u v : mSt), Sim u v → ∃ (n1 : Nat) (z1 : Int32 × mSt) (n2 : Nat) (z2 : Int32 × mSt), fX7_trace n1 u.1 u.2 = some z1 ∧ fX8_trace n2 v.1 v.2 = some z2 ∧ Sim z1.2 z2.2
def St_fault (Sim : mSt → mSt → Prop) : Prop := ∀ (u v : mSt), Sim u v → ∃ (n1 : Nat) (z1 : Int32 × mSt) (n2 : Nat) (z2 : Int32 × mSt), fX7_fault n1 u.1 u.2 = some z1 ∧ fX8_fault n2 v.1 v.2 = some z2 ∧ z1.1 = z2.1 ∧ Sim z1.2 z2.2
def Sv_fault (Sim : mSt → mSt → Prop) : Prop := ∀ (u v : mSt), Sim u v → ∃ (n1 : Nat) (z1 : Int32 × mSt) (n2 : Nat) (z2 : Int32 × mSt), fX7_fault n1 u.1 u.2 = some z1 ∧ fX8_fault n2 v.1 v.2 = some z2 ∧ Sim z1.2 z2.2
def St_many (Sim : mSt → mSt → Prop) : Prop := ∀ (a1 : Int32) (u v : mSt), Sim u v → ∃ (n1 : Nat) (z1 : Int32 × mSt) (n2 : Nat) (z2 : Int32 × mSt), fX7_many n1 a1 u.1 u.2 = some z1 ∧ fX8_many n2 a1 v.1 v.2 = some z2 ∧ z1.1 = z2.1 ∧ Sim z1.2 z2.2
def Sv_many (Sim : mSt → mSt → Prop) : Prop := ∀ (a1 : Int32) (u v : mSt), Sim u v → ∃ (n1 : Nat) (z1 : Int32 × mSt) (n2 : Nat) (z2 : Int32 × mSt), fX7_many n1 a1 u.1 u.2 = some z1 ∧ fX8_many n2 a1 v.1 v.2 = some z2 ∧ Sim z1.2 z2.2
def LawSteps (Sim : mSt → mSt → Prop) : Prop := Sv_program Sim ∧ Sv_ofRule Sim ∧ Sv_ofRelation Sim ∧ Sv_form Sim ∧ Sv_tell Sim ∧ Sv_ofFact Sim ∧ Sv_day Sim ∧ Sv_rounds Sim ∧ Sv_born Sim ∧ Sv_ranked Sim ∧ Sv_settled Sim ∧ St_demands Sim ∧ Sv_reading Sim ∧ Sv_back Sim ∧ Sv_kinds Sim ∧ Sv_forms Sim ∧ Sv_odds Sim ∧ Sv_sheet Sim ∧ Sv_lose Sim ∧ Sv_put Sim ∧ Sv_cell Sim ∧ Sv_copy Sim ∧ Sv_speak Sim ∧ Sv_quote Sim ∧ Sv_as Sim ∧ Sv_trace Sim ∧ Sv_fault Sim ∧ Sv_many Sim
set_option maxRecDepth 20000 in
set_option maxHeartbeats 1000000 in
theorem lc_program {Sim : mSt → mSt → Prop} {p : Program} {l : Launch} {e : Env} {s : State} {m : MethodId} {below : List Frame} {meth : Method} {c : Code} {D : va_G} {y : ClassId} {yS : ClassId × ClassId} {qc adK adV qm : Nat → Nat} {h b L i : Nat} {xs : Nat → Int32} (hst : Sv_program Sim) (hL : L ≤ 3072) (hi : i + 6 ≤ L) (X : LX p s m #[Value.ref b] c D y yS adK adV) (hX : va_X b L xs s s.heap) (hbl : b < s.heap.size) {u v : mSt} (hsim : Sim u v) {H : Heap} {locs : List Loc} {ls : Array Slot} (w : LH s D y yS qc h qm H locs u v) (hl : lv_has ls 4 [(0, .ref b), (1, .ref (qc 0)), (2, .ref h), (3, .int (nI i))]) (hnext : ∀ (u v : mSt) (H : Heap) (locs : List Loc) (ls : Array Slot), Sim u v → LH s D y yS qc h qm H locs u v → lv_has ls 4 [(0, .ref b), (1, .ref (qc 0)), (2, .ref h), (3, .int (nI i))] → W p l e room_1 s m #[Value.ref b] below meth c H locs 600000 7302250 (lw_Z below #[Value.ref b] s) (F0 m 1094 ls [])) : W p l e room_1 s m #[Value.ref b] below meth c H locs 600000 7302250 (lw_Z below #[Value.ref b] s) (F0 m 160 ls []) := by
  have hx := X.1.1
  have hb := X.1.2.1
  obtain ⟨n1, z1, n2, z2, e1, e2, hsim⟩ := hst (xs (nI i + nI 1).toNatClampNeg) (xs (nI i + nI 2).toNatClampNeg) (xs (nI i + nI 3).toNatClampNeg) (xs (nI i + nI 4).toNatClampNeg) u v hsim
  refine lv_aload_n hx hb dL_law_160 rfl (lv_at hl 1 rfl) ?_
  refine lv_aload_n hx hb dL_law_161 rfl (lv_at hl 0 rfl) ?_
  refine lv_iload_n hx hb dL_law_162 rfl (lv_at hl 3 rfl) ?_
  refine lv_iconst (v := nI 1) hx hb dL_law_163 (by decide) ?_
  refine lv_iadd hx hb dL_law_164 ?_
  refine va_sld hx hb hX hbl (Nat.not_le.mpr hbl) w.2.2.2 (l_in 1 (by decide) hi hL) dL_law_165 ?_
  refine lv_aload_n hx hb dL_law_166 rfl (lv_at hl 0 rfl) ?_
  refine lv_iload_n hx hb dL_law_167 rfl (lv_at hl 3 rfl) ?_
  refine lv_iconst (v := nI 2) hx hb dL_law_168 (by decide) ?_
  refine lv_iadd hx hb dL_law_169 ?_
  refine va_sld hx hb hX hbl (Nat.not_le.mpr hbl) w.2.2.2 (l_in 2 (by decide) hi hL) dL_law_170 ?_
  refine lv_aload_n hx hb dL_law_171 rfl (lv_at hl 0 rfl) ?_
  refine lv_iload_n hx hb dL_law_172 rfl (lv_at hl 3 rfl) ?_
  refine lv_iconst (v := nI 3) hx hb dL_law_173 (by decide) ?_
  refine lv_iadd hx hb dL_law_174 ?_
  refine va_sld hx hb hX hbl (Nat.not_le.mpr hbl) w.2.2.2 (l_in 3 (by decide) hi hL) dL_law_175 ?_
  refine lv_aload_n hx hb dL_law_176 rfl (lv_at hl 0 rfl) ?_
  refine lv_iload_n hx hb dL_law_177 rfl (lv_at hl 3 rfl) ?_
  refine lv_iconst (v := nI 4) hx hb dL_law_178 (by decide) ?_
  refine lv_iadd hx hb dL_law_179 ?_
  refine va_sld hx hb hX hbl (Nat.not_le.mpr hbl) w.2.2.2 (l_in 4 (by decide) hi hL) dL_law_180 ?_
  refine l_callSi X w (n := 4) (As := [.int (xs (nI i + (nI 1)).toNatClampNeg), .int (xs (nI i + (nI 2)).toNatClampNeg), .int (xs (nI i + (nI 3)).toNatClampNeg), .int (xs (nI i + (nI 4)).toNatClampNeg)]) (rest := []) (fX7_program_met l _ _ _ _ _ _ _ n1 _ _ _ _ _ _ _ e1) gL_law_X7_program rfl rfl rfl (by decide +kernel) ⟨Nat.le_of_ble_eq_true rfl, Nat.le_of_ble_eq_true rfl⟩ ⟨Nat.le_refl _, Nat.le_refl _⟩ rfl hl.1 rfl (Nat.le_of_ble_eq_true rfl) dL_law_181 (fun H locs w => ?_)
  refine lv_pop hx hb dL_law_184 rfl ?_
  refine lv_aload_n hx hb dL_law_185 rfl (lv_at hl 2 rfl) ?_
  refine lv_aload_n hx hb dL_law_186 rfl (lv_at hl 0 rfl) ?_
  refine lv_iload_n hx hb dL_law_187 rfl (lv_at hl 3 rfl) ?_
  refine lv_iconst (v := nI 1) hx hb dL_law_188 (by decide) ?_
  refine lv_iadd hx hb dL_law_189 ?_
  refine va_sld hx hb hX hbl (Nat.not_le.mpr hbl) w.2.2.2 (l_in 1 (by decide) hi hL) dL_law_190 ?_
  refine lv_aload_n hx hb dL_law_191 rfl (lv_at hl 0 rfl) ?_
  refine lv_iload_n hx hb dL_law_192 rfl (lv_at hl 3 rfl) ?_
  refine lv_iconst (v := nI 2) hx hb dL_law_193 (by decide) ?_
  refine lv_iadd hx hb dL_law_194 ?_
  refine va_sld hx hb hX hbl (Nat.not_le.mpr hbl) w.2.2.2 (l_in 2 (by decide) hi hL) dL_law_195 ?_
  refine lv_aload_n hx hb dL_law_196 rfl (lv_at hl 0 rfl) ?_
  refine lv_iload_n hx hb dL_law_197 rfl (lv_at hl 3 rfl) ?_
  refine lv_iconst (v := nI 3) hx hb dL_law_198 (by decide) ?_
  refine lv_iadd hx hb dL_law_199 ?_
  refine va_sld hx hb hX hbl (Nat.not_le.mpr hbl) w.2.2.2 (l_in 3 (by decide) hi hL) dL_law_200 ?_
  refine lv_aload_n hx hb dL_law_201 rfl (lv_at hl 0 rfl) ?_
  refine lv_iload_n hx hb dL_law_202 rfl (lv_at hl 3 rfl) ?_
  refine lv_iconst (v := nI 4) hx hb dL_law_203 (by decide) ?_
  refine lv_iadd hx hb dL_law_204 ?_
  refine va_sld hx hb hX hbl (Nat.not_le.mpr hbl) w.2.2.2 (l_in 4 (by decide) hi hL) dL_law_205 ?_
  refine l_callMi X w (n := 4) (As := [.int (xs (nI i + (nI 1)).toNatClampNeg), .int (xs (nI i + (nI 2)).toNatClampNeg), .int (xs (nI i + (nI 3)).toNatClampNeg), .int (xs (nI i + (nI 4)).toNatClampNeg)]) (rest := []) (fX8_program_met l _ _ _ _ _ n2 _ _ _ _ _ _ _ e2) gL_law_X8_program rfl rfl rfl (by decide +kernel) ⟨Nat.le_of_ble_eq_true rfl, Nat.le_of_ble_eq_true rfl⟩ ⟨Nat.le_refl _, Nat.le_refl _⟩ rfl hl.1 rfl (Nat.le_of_ble_eq_true rfl) dL_law_206 (fun H locs w => ?_)
  refine lv_pop hx hb dL_law_209 rfl ?_
  refine lv_goto (tgt := 1094) hx hb dL_law_210 (by decide) ?_
  exact hnext z1.2 z2.2 H locs ls hsim w hl
set_option maxRecDepth 20000 in
set_option maxHeartbeats 1000000 in
theorem lc_ofRule {Sim : mSt → mSt → Prop} {p : Program} {l : Launch} {e : Env} {s : State} {m : MethodId} {below : List Frame} {meth : Method} {c : Code} {D : va_G} {y : ClassId} {yS : ClassId × ClassId} {qc adK adV qm : Nat → Nat} {h b L i : Nat} {xs : Nat → Int32} (hst : Sv_ofRule Sim) (hL : L ≤ 3072) (hi : i + 6 ≤ L) (X : LX p s m #[Value.ref b] c D y yS adK adV) (hX : va_X b L xs s s.heap) (hbl : b < s.heap.size) {u v : mSt} (hsim : Sim u v) {H : Heap} {locs : List Loc} {ls : Array Slot} (w : LH s D y yS qc h qm H locs u v) (hl : lv_has ls 4 [(0, .ref b), (1, .ref (qc 0)), (2, .ref h), (3, .int (nI i))]) (hnext : ∀ (u v : mSt) (H : Heap) (locs : List Loc) (ls : Array Slot), Sim u v → LH s D y yS qc h qm H locs u v → lv_has ls 4 [(0, .ref b), (1, .ref (qc 0)), (2, .ref h), (3, .int (nI i))] → W p l e room_1 s m #[Value.ref b] below meth c H locs 600000 7302250 (lw_Z below #[Value.ref b] s) (F0 m 1094 ls [])) : W p l e room_1 s m #[Value.ref b] below meth c H locs 600000 7302250 (lw_Z below #[Value.ref b] s) (F0 m 213 ls []) := by
  have hx := X.1.1
  have hb := X.1.2.1
  obtain ⟨n1, z1, n2, z2, e1, e2, hsim⟩ := hst (xs (nI i + nI 1).toNatClampNeg) (xs (nI i + nI 2).toNatClampNeg) u v hsim
  refine lv_aload_n hx hb dL_law_213 rfl (lv_at hl 1 rfl) ?_
  refine lv_aload_n hx hb dL_law_214 rfl (lv_at hl 0 rfl) ?_
  refine lv_iload_n hx hb dL_law_215 rfl (lv_at hl 3 rfl) ?_
  refine lv_iconst (v := nI 1) hx hb dL_law_216 (by decide) ?_
  refine lv_iadd hx hb dL_law_217 ?_
  refine va_sld hx hb hX hbl (Nat.not_le.mpr hbl) w.2.2.2 (l_in 1 (by decide) hi hL) dL_law_218 ?_
  refine lv_aload_n hx hb dL_law_219 rfl (lv_at hl 0 rfl) ?_
  refine lv_iload_n hx hb dL_law_220 rfl (lv_at hl 3 rfl) ?_
  refine lv_iconst (v := nI 2) hx hb dL_law_221 (by decide) ?_
  refine lv_iadd hx hb dL_law_222 ?_
  refine va_sld hx hb hX hbl (Nat.not_le.mpr hbl) w.2.2.2 (l_in 2 (by decide) hi hL) dL_law_223 ?_
  refine l_callCi X w (n := 2) (As := [.int (xs (nI i + (nI 1)).toNatClampNeg), .int (xs (nI i + (nI 2)).toNatClampNeg)]) (rest := []) (fX7_ofRule_met l _ _ _ _ _ n1 _ _ _ _ _ e1) gL_law_X7_ofRule rfl rfl rfl (by decide +kernel) ⟨Nat.le_of_ble_eq_true rfl, Nat.le_of_ble_eq_true rfl⟩ ⟨Nat.le_refl _, Nat.le_refl _⟩ rfl hl.1 rfl (Nat.le_of_ble_eq_true rfl) dL_law_224 (fun H locs w => ?_)
  refine lv_pop hx hb dL_law_227 rfl ?_
  refine lv_aload_n hx hb dL_law_228 rfl (lv_at hl 2 rfl) ?_
  refine lv_aload_n hx hb dL_law_229 rfl (lv_at hl 0 rfl) ?_
  refine lv_iload_n hx hb dL_law_230 rfl (lv_at hl 3 rfl) ?_
  refine lv_iconst (v := nI 1) hx hb dL_law_231 (by decide) ?_
  refine lv_iadd hx hb dL_law_232 ?_
  refine va_sld hx hb hX hbl (Nat.not_le.mpr hbl) w.2.2.2 (l_in 1 (by decide) hi hL) dL_law_233 ?_
  refine lv_aload_n hx hb dL_law_234 rfl (lv_at hl 0 rfl) ?_
  refine lv_iload_n hx hb dL_law_235 rfl (lv_at hl 3 rfl) ?_
  refine lv_iconst (v := nI 2) hx hb dL_law_236 (by decide) ?_
  refine lv_iadd hx hb dL_law_237 ?_
  refine va_sld hx hb hX hbl (Nat.not_le.mpr hbl) w.2.2.2 (l_in 2 (by decide) hi hL) dL_law_238 ?_
  refine l_callMi X w (n := 2) (As := [.int (xs (nI i + (nI 1)).toNatClampNeg), .int (xs (nI i + (nI 2)).toNatClampNeg)]) (rest := []) (fX8_ofRule_met l _ _ _ _ _ n2 _ _ _ _ _ e2) gL_law_X8_ofRule rfl rfl rfl (by decide +kernel) ⟨Nat.le_of_ble_eq_true rfl, Nat.le_of_ble_eq_true rfl⟩ ⟨Nat.le_refl _, Nat.le_refl _⟩ rfl hl.1 rfl (Nat.le_of_ble_eq_true rfl) dL_law_239 (fun H locs w => ?_)
  refine lv_pop hx hb dL_law_242 rfl ?_
  refine lv_goto (tgt := 1094) hx hb dL_law_243 (by decide) ?_
  exact hnext z1.2 z2.2 H locs ls hsim w hl
set_option maxRecDepth 20000 in
set_option maxHeartbeats 1000000 in
theorem lc_ofRelation {Sim : mSt → mSt → Prop} {p : Program} {l : Launch} {e : Env} {s : State} {m : MethodId} {below : List Frame} {meth : Method} {c : Code} {D : va_G} {y : ClassId} {yS : ClassId × ClassId} {qc adK adV qm : Nat → Nat} {h b L i : Nat} {xs : Nat → Int32} (hst : Sv_ofRelation Sim) (hL : L ≤ 3072) (hi : i + 6 ≤ L) (X : LX p s m #[Value.ref b] c D y yS adK adV) (hX : va_X b L xs s s.heap) (hbl : b < s.heap.size) {u v : mSt} (hsim : Sim u v) {H : Heap} {locs : List Loc} {ls : Array Slot} (w : LH s D y yS qc h qm H locs u v) (hl : lv_has ls 4 [(0, .ref b), (1, .ref (qc 0)), (2, .ref h), (3, .int (nI i))]) (hnext : ∀ (u v : mSt) (H : Heap) (locs : List Loc) (ls : Array Slot), Sim u v → LH s D y yS qc h qm H locs u v → lv_has ls 4 [(0, .ref b), (1, .ref (qc 0)), (2, .ref h), (3, .int (nI i))] → W p l e room_1 s m #[Value.ref b] below meth c H locs 600000 7302250 (lw_Z below #[Value.ref b] s) (F0 m 1094 ls [])) : W p l e room_1 s m #[Value.ref b] below meth c H locs 600000 7302250 (lw_Z below #[Value.ref b] s) (F0 m 246 ls []) := by
  have hx := X.1.1
  have hb := X.1.2.1
  obtain ⟨n1, z1, n2, z2, e1, e2, hsim⟩ := hst (xs (nI i + nI 1).toNatClampNeg) (xs (nI i + nI 2).toNatClampNeg) u v hsim
  refine lv_aload_n hx hb dL_law_246 rfl (lv_at hl 1 rfl) ?_
  refine lv_aload_n hx hb dL_law_247 rfl (lv_at hl 0 rfl) ?_
  refine lv_iload_n hx hb dL_law_248 rfl (lv_at hl 3 rfl) ?_
  refine lv_iconst (v := nI 1) hx hb dL_law_249 (by decide) ?_
  refine lv_iadd hx hb dL_law_250 ?_
  refine va_sld hx hb hX hbl (Nat.not_le.mpr hbl) w.2.2.2 (l_in 1 (by decide) hi hL) dL_law_251 ?_
  refine lv_aload_n hx hb dL_law_252 rfl (lv_at hl 0 rfl) ?_
  refine lv_iload_n hx hb dL_law_253 rfl (lv_at hl 3 rfl) ?_
  refine lv_iconst (v := nI 2) hx hb dL_law_254 (by decide) ?_
  refine lv_iadd hx hb dL_law_255 ?_
  refine va_sld hx hb hX hbl (Nat.not_le.mpr hbl) w.2.2.2 (l_in 2 (by decide) hi hL) dL_law_256 ?_
  refine l_callCi X w (n := 2) (As := [.int (xs (nI i + (nI 1)).toNatClampNeg), .int (xs (nI i + (nI 2)).toNatClampNeg)]) (rest := []) (fX7_ofRelation_met l _ _ _ _ _ n1 _ _ _ _ _ e1) gL_law_X7_ofRelation rfl rfl rfl (by decide +kernel) ⟨Nat.le_of_ble_eq_true rfl, Nat.le_of_ble_eq_true rfl⟩ ⟨Nat.le_refl _, Nat.le_refl _⟩ rfl hl.1 rfl (Nat.le_of_ble_eq_true rfl) dL_law_257 (fun H locs w => ?_)
  refine lv_pop hx hb dL_law_260 rfl ?_
  refine lv_aload_n hx hb dL_law_261 rfl (lv_at hl 2 rfl) ?_
  refine lv_aload_n hx hb dL_law_262 rfl (lv_at hl 0 rfl) ?_
  refine lv_iload_n hx hb dL_law_263 rfl (lv_at hl 3 rfl) ?_
  refine lv_iconst (v := nI 1) hx hb dL_law_264 (by decide) ?_
  refine lv_iadd hx hb dL_law_265 ?_
  refine va_sld hx hb hX hbl (Nat.not_le.mpr hbl) w.2.2.2 (l_in 1 (by decide) hi hL) dL_law_266 ?_
  refine lv_aload_n hx hb dL_law_267 rfl (lv_at hl 0 rfl) ?_
  refine lv_iload_n hx hb dL_law_268 rfl (lv_at hl 3 rfl) ?_
  refine lv_iconst (v := nI 2) hx hb dL_law_269 (by decide) ?_
  refine lv_iadd hx hb dL_law_270 ?_
  refine va_sld hx hb hX hbl (Nat.not_le.mpr hbl) w.2.2.2 (l_in 2 (by decide) hi hL) dL_law_271 ?_
  refine l_callMi X w (n := 2) (As := [.int (xs (nI i + (nI 1)).toNatClampNeg), .int (xs (nI i + (nI 2)).toNatClampNeg)]) (rest := []) (fX8_ofRelation_met l _ _ _ _ _ n2 _ _ _ _ _ e2) gL_law_X8_ofRelation rfl rfl rfl (by decide +kernel) ⟨Nat.le_of_ble_eq_true rfl, Nat.le_of_ble_eq_true rfl⟩ ⟨Nat.le_refl _, Nat.le_refl _⟩ rfl hl.1 rfl (Nat.le_of_ble_eq_true rfl) dL_law_272 (fun H locs w => ?_)
  refine lv_pop hx hb dL_law_275 rfl ?_
  refine lv_goto (tgt := 1094) hx hb dL_law_276 (by decide) ?_
  exact hnext z1.2 z2.2 H locs ls hsim w hl
set_option maxRecDepth 20000 in
set_option maxHeartbeats 1000000 in
theorem lc_form {Sim : mSt → mSt → Prop} {p : Program} {l : Launch} {e : Env} {s : State} {m : MethodId} {below : List Frame} {meth : Method} {c : Code} {D : va_G} {y : ClassId} {yS : ClassId × ClassId} {qc adK adV qm : Nat → Nat} {h b L i : Nat} {xs : Nat → Int32} (hst : Sv_form Sim) (hL : L ≤ 3072) (hi : i + 6 ≤ L) (X : LX p s m #[Value.ref b] c D y yS adK adV) (hX : va_X b L xs s s.heap) (hbl : b < s.heap.size) {u v : mSt} (hsim : Sim u v) {H : Heap} {locs : List Loc} {ls : Array Slot} (w : LH s D y yS qc h qm H locs u v) (hl : lv_has ls 4 [(0, .ref b), (1, .ref (qc 0)), (2, .ref h), (3, .int (nI i))]) (hnext : ∀ (u v : mSt) (H : Heap) (locs : List Loc) (ls : Array Slot), Sim u v → LH s D y yS qc h qm H locs u v → lv_has ls 4 [(0, .ref b), (1, .ref (qc 0)), (2, .ref h), (3, .int (nI i))] → W p l e room_1 s m #[Value.ref b] below meth c H locs 600000 7302250 (lw_Z below #[Value.ref b] s) (F0 m 1094 ls [])) : W p l e room_1 s m #[Value.ref b] below meth c H locs 600000 7302250 (lw_Z below #[Value.ref b] s) (F0 m 279 ls []) := by
  have hx := X.1.1
  have hb := X.1.2.1
  obtain ⟨n1, z1, n2, z2, e1, e2, hsim⟩ := hst (xs (nI i + nI 1).toNatClampNeg) (xs (nI i + nI 2).toNatClampNeg) u v hsim
  refine lv_aload_n hx hb dL_law_279 rfl (lv_at hl 1 rfl) ?_
  refine lv_aload_n hx hb dL_law_280 rfl (lv_at hl 0 rfl) ?_
  refine lv_iload_n hx hb dL_law_281 rfl (lv_at hl 3 rfl) ?_
  refine lv_iconst (v := nI 1) hx hb dL_law_282 (by decide) ?_
  refine lv_iadd hx hb dL_law_283 ?_
  refine va_sld hx hb hX hbl (Nat.not_le.mpr hbl) w.2.2.2 (l_in 1 (by decide) hi hL) dL_law_284 ?_
  refine lv_aload_n hx hb dL_law_285 rfl (lv_at hl 0 rfl) ?_
  refine lv_iload_n hx hb dL_law_286 rfl (lv_at hl 3 rfl) ?_
  refine lv_iconst (v := nI 2) hx hb dL_law_287 (by decide) ?_
  refine lv_iadd hx hb dL_law_288 ?_
  refine va_sld hx hb hX hbl (Nat.not_le.mpr hbl) w.2.2.2 (l_in 2 (by decide) hi hL) dL_law_289 ?_
  refine l_callCi X w (n := 2) (As := [.int (xs (nI i + (nI 1)).toNatClampNeg), .int (xs (nI i + (nI 2)).toNatClampNeg)]) (rest := []) (fX7_form_met l _ _ _ _ _ n1 _ _ _ _ _ e1) gL_law_X7_form rfl rfl rfl (by decide +kernel) ⟨Nat.le_of_ble_eq_true rfl, Nat.le_of_ble_eq_true rfl⟩ ⟨Nat.le_refl _, Nat.le_refl _⟩ rfl hl.1 rfl (Nat.le_of_ble_eq_true rfl) dL_law_290 (fun H locs w => ?_)
  refine lv_pop hx hb dL_law_293 rfl ?_
  refine lv_aload_n hx hb dL_law_294 rfl (lv_at hl 2 rfl) ?_
  refine lv_aload_n hx hb dL_law_295 rfl (lv_at hl 0 rfl) ?_
  refine lv_iload_n hx hb dL_law_296 rfl (lv_at hl 3 rfl) ?_
  refine lv_iconst (v := nI 1) hx hb dL_law_297 (by decide) ?_
  refine lv_iadd hx hb dL_law_298 ?_
  refine va_sld hx hb hX hbl (Nat.not_le.mpr hbl) w.2.2.2 (l_in 1 (by decide) hi hL) dL_law_299 ?_
  refine lv_aload_n hx hb dL_law_300 rfl (lv_at hl 0 rfl) ?_
  refine lv_iload_n hx hb dL_law_301 rfl (lv_at hl 3 rfl) ?_
  refine lv_iconst (v := nI 2) hx hb dL_law_302 (by decide) ?_
  refine lv_iadd hx hb dL_law_303 ?_
  refine va_sld hx hb hX hbl (Nat.not_le.mpr hbl) w.2.2.2 (l_in 2 (by decide) hi hL) dL_law_304 ?_
  refine l_callMi X w (n := 2) (As := [.int (xs (nI i + (nI 1)).toNatClampNeg), .int (xs (nI i + (nI 2)).toNatClampNeg)]) (rest := []) (fX8_form_met l _ _ _ _ _ n2 _ _ _ _ _ e2) gL_law_X8_form rfl rfl rfl (by decide +kernel) ⟨Nat.le_of_ble_eq_true rfl, Nat.le_of_ble_eq_true rfl⟩ ⟨Nat.le_refl _, Nat.le_refl _⟩ rfl hl.1 rfl (Nat.le_of_ble_eq_true rfl) dL_law_305 (fun H locs w => ?_)
  refine lv_pop hx hb dL_law_308 rfl ?_
  refine lv_goto (tgt := 1094) hx hb dL_law_309 (by decide) ?_
  exact hnext z1.2 z2.2 H locs ls hsim w hl
set_option maxRecDepth 20000 in
set_option maxHeartbeats 1000000 in
theorem lc_tell {Sim : mSt → mSt → Prop} {p : Program} {l : Launch} {e : Env} {s : State} {m : MethodId} {below : List Frame} {meth : Method} {c : Code} {D : va_G} {y : ClassId} {yS : ClassId × ClassId} {qc adK adV qm : Nat → Nat} {h b L i : Nat} {xs : Nat → Int32} (hst : Sv_tell Sim) (hL : L ≤ 3072) (hi : i + 6 ≤ L) (X : LX p s m #[Value.ref b] c D y yS adK adV) (hX : va_X b L xs s s.heap) (hbl : b < s.heap.size) {u v : mSt} (hsim : Sim u v) {H : Heap} {locs : List Loc} {ls : Array Slot} (w : LH s D y yS qc h qm H locs u v) (hl : lv_has ls 4 [(0, .ref b), (1, .ref (qc 0)), (2, .ref h), (3, .int (nI i))]) (hnext : ∀ (u v : mSt) (H : Heap) (locs : List Loc) (ls : Array Slot), Sim u v → LH s D y yS qc h qm H locs u v → lv_has ls 4 [(0, .ref b), (1, .ref (qc 0)), (2, .ref h), (3, .int (nI i))] → W p l e room_1 s m #[Value.ref b] below meth c H locs 600000 7302250 (lw_Z below #[Value.ref b] s) (F0 m 1094 ls [])) : W p l e room_1 s m #[Value.ref b] below meth c H locs 600000 7302250 (lw_Z below #[Value.ref b] s) (F0 m 312 ls []) := by
  have hx := X.1.1
  have hb := X.1.2.1
  obtain ⟨n1, z1, n2, z2, e1, e2, hsim⟩ := hst (xs (nI i + nI 1).toNatClampNeg) (xs (nI i + nI 2).toNatClampNeg) (xs (nI i + nI 3).toNatClampNeg) u v hsim
  refine lv_aload_n hx hb dL_law_312 rfl (lv_at hl 1 rfl) ?_
  refine lv_aload_n hx hb dL_law_313 rfl (lv_at hl 0 rfl) ?_
  refine lv_iload_n hx hb dL_law_314 rfl (lv_at hl 3 rfl) ?_
  refine lv_iconst (v := nI 1) hx hb dL_law_315 (by decide) ?_
  refine lv_iadd hx hb dL_law_316 ?_
  refine va_sld hx hb hX hbl (Nat.not_le.mpr hbl) w.2.2.2 (l_in 1 (by decide) hi hL) dL_law_317 ?_
  refine lv_aload_n hx hb dL_law_318 rfl (lv_at hl 0 rfl) ?_
  refine lv_iload_n hx hb dL_law_319 rfl (lv_at hl 3 rfl) ?_
  refine lv_iconst (v := nI 2) hx hb dL_law_320 (by decide) ?_
  refine lv_iadd hx hb dL_law_321 ?_
  refine va_sld hx hb hX hbl (Nat.not_le.mpr hbl) w.2.2.2 (l_in 2 (by decide) hi hL) dL_law_322 ?_
  refine lv_aload_n hx hb dL_law_323 rfl (lv_at hl 0 rfl) ?_
  refine lv_iload_n hx hb dL_law_324 rfl (lv_at hl 3 rfl) ?_
  refine lv_iconst (v := nI 3) hx hb dL_law_325 (by decide) ?_
  refine lv_iadd hx hb dL_law_326 ?_
  refine va_sld hx hb hX hbl (Nat.not_le.mpr hbl) w.2.2.2 (l_in 3 (by decide) hi hL) dL_law_327 ?_
  refine l_callCi X w (n := 3) (As := [.int (xs (nI i + (nI 1)).toNatClampNeg), .int (xs (nI i + (nI 2)).toNatClampNeg), .int (xs (nI i + (nI 3)).toNatClampNeg)]) (rest := []) (fX7_tell_met l _ _ _ _ _ n1 _ _ _ _ _ _ e1) gL_law_X7_tell rfl rfl rfl (by decide +kernel) ⟨Nat.le_of_ble_eq_true rfl, Nat.le_of_ble_eq_true rfl⟩ ⟨Nat.le_refl _, Nat.le_refl _⟩ rfl hl.1 rfl (Nat.le_of_ble_eq_true rfl) dL_law_328 (fun H locs w => ?_)
  refine lv_pop hx hb dL_law_331 rfl ?_
  refine lv_aload_n hx hb dL_law_332 rfl (lv_at hl 2 rfl) ?_
  refine lv_aload_n hx hb dL_law_333 rfl (lv_at hl 0 rfl) ?_
  refine lv_iload_n hx hb dL_law_334 rfl (lv_at hl 3 rfl) ?_
  refine lv_iconst (v := nI 1) hx hb dL_law_335 (by decide) ?_
  refine lv_iadd hx hb dL_law_336 ?_
  refine va_sld hx hb hX hbl (Nat.not_le.mpr hbl) w.2.2.2 (l_in 1 (by decide) hi hL) dL_law_337 ?_
  refine lv_aload_n hx hb dL_law_338 rfl (lv_at hl 0 rfl) ?_
  refine lv_iload_n hx hb dL_law_339 rfl (lv_at hl 3 rfl) ?_
  refine lv_iconst (v := nI 2) hx hb dL_law_340 (by decide) ?_
  refine lv_iadd hx hb dL_law_341 ?_
  refine va_sld hx hb hX hbl (Nat.not_le.mpr hbl) w.2.2.2 (l_in 2 (by decide) hi hL) dL_law_342 ?_
  refine lv_aload_n hx hb dL_law_343 rfl (lv_at hl 0 rfl) ?_
  refine lv_iload_n hx hb dL_law_344 rfl (lv_at hl 3 rfl) ?_
  refine lv_iconst (v := nI 3) hx hb dL_law_345 (by decide) ?_
  refine lv_iadd hx hb dL_law_346 ?_
  refine va_sld hx hb hX hbl (Nat.not_le.mpr hbl) w.2.2.2 (l_in 3 (by decide) hi hL) dL_law_347 ?_
  refine l_callMi X w (n := 3) (As := [.int (xs (nI i + (nI 1)).toNatClampNeg), .int (xs (nI i + (nI 2)).toNatClampNeg), .int (xs (nI i + (nI 3)).toNatClampNeg)]) (rest := []) (fX8_tell_met l _ _ _ _ _ n2 _ _ _ _ _ _ e2) gL_law_X8_tell rfl rfl rfl (by decide +kernel) ⟨Nat.le_of_ble_eq_true rfl, Nat.le_of_ble_eq_true rfl⟩ ⟨Nat.le_refl _, Nat.le_refl _⟩ rfl hl.1 rfl (Nat.le_of_ble_eq_true rfl) dL_law_348 (fun H locs w => ?_)
  refine lv_pop hx hb dL_law_351 rfl ?_
  refine lv_goto (tgt := 1094) hx hb dL_law_352 (by decide) ?_
  exact hnext z1.2 z2.2 H locs ls hsim w hl
set_option maxRecDepth 20000 in
set_option maxHeartbeats 1000000 in
theorem lc_ofFact {Sim : mSt → mSt → Prop} {p : Program} {l : Launch} {e : Env} {s : State} {m : MethodId} {below : List Frame} {meth : Method} {c : Code} {D : va_G} {y : ClassId} {yS : ClassId × ClassId} {qc adK adV qm : Nat → Nat} {h b L i : Nat} {xs : Nat → Int32} (hst : Sv_ofFact Sim) (hL : L ≤ 3072) (hi : i + 6 ≤ L) (X : LX p s m #[Value.ref b] c D y yS adK adV) (hX : va_X b L xs s s.heap) (hbl : b < s.heap.size) {u v : mSt} (hsim : Sim u v) {H : Heap} {locs : List Loc} {ls : Array Slot} (w : LH s D y yS qc h qm H locs u v) (hl : lv_has ls 4 [(0, .ref b), (1, .ref (qc 0)), (2, .ref h), (3, .int (nI i))]) (hnext : ∀ (u v : mSt) (H : Heap) (locs : List Loc) (ls : Array Slot), Sim u v → LH s D y yS qc h qm H locs u v → lv_has ls 4 [(0, .ref b), (1, .ref (qc 0)), (2, .ref h), (3, .int (nI i))] → W p l e room_1 s m #[Value.ref b] below meth c H locs 600000 7302250 (lw_Z below #[Value.ref b] s) (F0 m 1094 ls [])) : W p l e room_1 s m #[Value.ref b] below meth c H locs 600000 7302250 (lw_Z below #[Value.ref b] s) (F0 m 355 ls []) := by
  have hx := X.1.1
  have hb := X.1.2.1
  obtain ⟨n1, z1, n2, z2, e1, e2, hsim⟩ := hst (xs (nI i + nI 1).toNatClampNeg) (xs (nI i + nI 2).toNatClampNeg) (xs (nI i + nI 3).toNatClampNeg) (xs (nI i + nI 4).toNatClampNeg) u v hsim
  refine lv_aload_n hx hb dL_law_355 rfl (lv_at hl 1 rfl) ?_
  refine lv_aload_n hx hb dL_law_356 rfl (lv_at hl 0 rfl) ?_
  refine lv_iload_n hx hb dL_law_357 rfl (lv_at hl 3 rfl) ?_
  refine lv_iconst (v := nI 1) hx hb dL_law_358 (by decide) ?_
  refine lv_iadd hx hb dL_law_359 ?_
  refine va_sld hx hb hX hbl (Nat.not_le.mpr hbl) w.2.2.2 (l_in 1 (by decide) hi hL) dL_law_360 ?_
  refine lv_aload_n hx hb dL_law_361 rfl (lv_at hl 0 rfl) ?_
  refine lv_iload_n hx hb dL_law_362 rfl (lv_at hl 3 rfl) ?_
  refine lv_iconst (v := nI 2) hx hb dL_law_363 (by decide) ?_
  refine lv_iadd hx hb dL_law_364 ?_
  refine va_sld hx hb hX hbl (Nat.not_le.mpr hbl) w.2.2.2 (l_in 2 (by decide) hi hL) dL_law_365 ?_
  refine lv_aload_n hx hb dL_law_366 rfl (lv_at hl 0 rfl) ?_
  refine lv_iload_n hx hb dL_law_367 rfl (lv_at hl 3 rfl) ?_
  refine lv_iconst (v := nI 3) hx hb dL_law_368 (by decide) ?_
  refine lv_iadd hx hb dL_law_369 ?_
  refine va_sld hx hb hX hbl (Nat.not_le.mpr hbl) w.2.2.2 (l_in 3 (by decide) hi hL) dL_law_370 ?_
  refine lv_aload_n hx hb dL_law_371 rfl (lv_at hl 0 rfl) ?_
  refine lv_iload_n hx hb dL_law_372 rfl (lv_at hl 3 rfl) ?_
  refine lv_iconst (v := nI 4) hx hb dL_law_373 (by decide) ?_
  refine lv_iadd hx hb dL_law_374 ?_
  refine va_sld hx hb hX hbl (Nat.not_le.mpr hbl) w.2.2.2 (l_in 4 (by decide) hi hL) dL_law_375 ?_
  refine l_callCi X w (n := 4) (As := [.int (xs (nI i + (nI 1)).toNatClampNeg), .int (xs (nI i + (nI 2)).toNatClampNeg), .int (xs (nI i + (nI 3)).toNatClampNeg), .int (xs (nI i + (nI 4)).toNatClampNeg)]) (rest := []) (fX7_ofFact_met l _ _ _ _ _ n1 _ _ _ _ _ _ _ e1) gL_law_X7_ofFact rfl rfl rfl (by decide +kernel) ⟨Nat.le_of_ble_eq_true rfl, Nat.le_of_ble_eq_true rfl⟩ ⟨Nat.le_refl _, Nat.le_refl _⟩ rfl hl.1 rfl (Nat.le_of_ble_eq_true rfl) dL_law_376 (fun H locs w => ?_)
  refine lv_pop hx hb dL_law_379 rfl ?_
  refine lv_aload_n hx hb dL_law_380 rfl (lv_at hl 2 rfl) ?_
  refine lv_aload_n hx hb dL_law_381 rfl (lv_at hl 0 rfl) ?_
  refine lv_iload_n hx hb dL_law_382 rfl (lv_at hl 3 rfl) ?_
  refine lv_iconst (v := nI 1) hx hb dL_law_383 (by decide) ?_
  refine lv_iadd hx hb dL_law_384 ?_
  refine va_sld hx hb hX hbl (Nat.not_le.mpr hbl) w.2.2.2 (l_in 1 (by decide) hi hL) dL_law_385 ?_
  refine lv_aload_n hx hb dL_law_386 rfl (lv_at hl 0 rfl) ?_
  refine lv_iload_n hx hb dL_law_387 rfl (lv_at hl 3 rfl) ?_
  refine lv_iconst (v := nI 2) hx hb dL_law_388 (by decide) ?_
  refine lv_iadd hx hb dL_law_389 ?_
  refine va_sld hx hb hX hbl (Nat.not_le.mpr hbl) w.2.2.2 (l_in 2 (by decide) hi hL) dL_law_390 ?_
  refine lv_aload_n hx hb dL_law_391 rfl (lv_at hl 0 rfl) ?_
  refine lv_iload_n hx hb dL_law_392 rfl (lv_at hl 3 rfl) ?_
  refine lv_iconst (v := nI 3) hx hb dL_law_393 (by decide) ?_
  refine lv_iadd hx hb dL_law_394 ?_
  refine va_sld hx hb hX hbl (Nat.not_le.mpr hbl) w.2.2.2 (l_in 3 (by decide) hi hL) dL_law_395 ?_
  refine lv_aload_n hx hb dL_law_396 rfl (lv_at hl 0 rfl) ?_
  refine lv_iload_n hx hb dL_law_397 rfl (lv_at hl 3 rfl) ?_
  refine lv_iconst (v := nI 4) hx hb dL_law_398 (by decide) ?_
  refine lv_iadd hx hb dL_law_399 ?_
  refine va_sld hx hb hX hbl (Nat.not_le.mpr hbl) w.2.2.2 (l_in 4 (by decide) hi hL) dL_law_400 ?_
  refine l_callMi X w (n := 4) (As := [.int (xs (nI i + (nI 1)).toNatClampNeg), .int (xs (nI i + (nI 2)).toNatClampNeg), .int (xs (nI i + (nI 3)).toNatClampNeg), .int (xs (nI i + (nI 4)).toNatClampNeg)]) (rest := []) (fX8_ofFact_met l _ _ _ _ _ n2 _ _ _ _ _ _ _ e2) gL_law_X8_ofFact rfl rfl rfl (by decide +kernel) ⟨Nat.le_of_ble_eq_true rfl, Nat.le_of_ble_eq_true rfl⟩ ⟨Nat.le_refl _, Nat.le_refl _⟩ rfl hl.1 rfl (Nat.le_of_ble_eq_true rfl) dL_law_401 (fun H locs w => ?_)
  refine lv_pop hx hb dL_law_404 rfl ?_
  refine lv_goto (tgt := 1094) hx hb dL_law_405 (by decide) ?_
  exact hnext z1.2 z2.2 H locs ls hsim w hl
set_option maxRecDepth 20000 in
set_option maxHeartbeats 1000000 in
theorem lc_day {Sim : mSt → mSt → Prop} {p : Program} {l : Launch} {e : Env} {s : State} {m : MethodId} {below : List Frame} {meth : Method} {c : Code} {D : va_G} {y : ClassId} {yS : ClassId × ClassId} {qc adK adV qm : Nat → Nat} {h b L i : Nat} {xs : Nat → Int32} (hst : Sv_day Sim) (hL : L ≤ 3072) (hi : i + 6 ≤ L) (X : LX p s m #[Value.ref b] c D y yS adK adV) (hX : va_X b L xs s s.heap) (hbl : b < s.heap.size) {u v : mSt} (hsim : Sim u v) {H : Heap} {locs : List Loc} {ls : Array Slot} (w : LH s D y yS qc h qm H locs u v) (hl : lv_has ls 4 [(0, .ref b), (1, .ref (qc 0)), (2, .ref h), (3, .int (nI i))]) (hnext : ∀ (u v : mSt) (H : Heap) (locs : List Loc) (ls : Array Slot), Sim u v → LH s D y yS qc h qm H locs u v → lv_has ls 4 [(0, .ref b), (1, .ref (qc 0)), (2, .ref h), (3, .int (nI i))] → W p l e room_1 s m #[Value.ref b] below meth c H locs 600000 7302250 (lw_Z below #[Value.ref b] s) (F0 m 1094 ls [])) : W p l e room_1 s m #[Value.ref b] below meth c H locs 600000 7302250 (lw_Z below #[Value.ref b] s) (F0 m 408 ls []) := by
  have hx := X.1.1
  have hb := X.1.2.1
  obtain ⟨n1, z1, n2, z2, e1, e2, hsim⟩ := hst (xs (nI i + nI 1).toNatClampNeg) (xs (nI i + nI 2).toNatClampNeg) (xs (nI i + nI 3).toNatClampNeg) (xs (nI i + nI 4).toNatClampNeg) (xs (nI i + nI 5).toNatClampNeg) u v hsim
  refine lv_aload_n hx hb dL_law_408 rfl (lv_at hl 1 rfl) ?_
  refine lv_aload_n hx hb dL_law_409 rfl (lv_at hl 0 rfl) ?_
  refine lv_iload_n hx hb dL_law_410 rfl (lv_at hl 3 rfl) ?_
  refine lv_iconst (v := nI 1) hx hb dL_law_411 (by decide) ?_
  refine lv_iadd hx hb dL_law_412 ?_
  refine va_sld hx hb hX hbl (Nat.not_le.mpr hbl) w.2.2.2 (l_in 1 (by decide) hi hL) dL_law_413 ?_
  refine lv_aload_n hx hb dL_law_414 rfl (lv_at hl 0 rfl) ?_
  refine lv_iload_n hx hb dL_law_415 rfl (lv_at hl 3 rfl) ?_
  refine lv_iconst (v := nI 2) hx hb dL_law_416 (by decide) ?_
  refine lv_iadd hx hb dL_law_417 ?_
  refine va_sld hx hb hX hbl (Nat.not_le.mpr hbl) w.2.2.2 (l_in 2 (by decide) hi hL) dL_law_418 ?_
  refine lv_aload_n hx hb dL_law_419 rfl (lv_at hl 0 rfl) ?_
  refine lv_iload_n hx hb dL_law_420 rfl (lv_at hl 3 rfl) ?_
  refine lv_iconst (v := nI 3) hx hb dL_law_421 (by decide) ?_
  refine lv_iadd hx hb dL_law_422 ?_
  refine va_sld hx hb hX hbl (Nat.not_le.mpr hbl) w.2.2.2 (l_in 3 (by decide) hi hL) dL_law_423 ?_
  refine lv_aload_n hx hb dL_law_424 rfl (lv_at hl 0 rfl) ?_
  refine lv_iload_n hx hb dL_law_425 rfl (lv_at hl 3 rfl) ?_
  refine lv_iconst (v := nI 4) hx hb dL_law_426 (by decide) ?_
  refine lv_iadd hx hb dL_law_427 ?_
  refine va_sld hx hb hX hbl (Nat.not_le.mpr hbl) w.2.2.2 (l_in 4 (by decide) hi hL) dL_law_428 ?_
  refine lv_aload_n hx hb dL_law_429 rfl (lv_at hl 0 rfl) ?_
  refine lv_iload_n hx hb dL_law_430 rfl (lv_at hl 3 rfl) ?_
  refine lv_iconst (v := nI 5) hx hb dL_law_431 (by decide) ?_
  refine lv_iadd hx hb dL_law_432 ?_
  refine va_sld hx hb hX hbl (Nat.not_le.mpr hbl) w.2.2.2 (l_in 5 (by decide) hi hL) dL_law_433 ?_
  refine l_callCi X w (n := 5) (As := [.int (xs (nI i + (nI 1)).toNatClampNeg), .int (xs (nI i + (nI 2)).toNatClampNeg), .int (xs (nI i + (nI 3)).toNatClampNeg), .int (xs (nI i + (nI 4)).toNatClampNeg), .int (xs (nI i + (nI 5)).toNatClampNeg)]) (rest := []) (fX7_day_met l _ _ _ _ _ n1 _ _ _ _ _ _ _ _ e1) gL_law_X7_day rfl rfl rfl (by decide +kernel) ⟨Nat.le_of_ble_eq_true rfl, Nat.le_of_ble_eq_true rfl⟩ ⟨Nat.le_refl _, Nat.le_refl _⟩ rfl hl.1 rfl (Nat.le_of_ble_eq_true rfl) dL_law_434 (fun H locs w => ?_)
  refine lv_pop hx hb dL_law_437 rfl ?_
  refine lv_aload_n hx hb dL_law_438 rfl (lv_at hl 2 rfl) ?_
  refine lv_aload_n hx hb dL_law_439 rfl (lv_at hl 0 rfl) ?_
  refine lv_iload_n hx hb dL_law_440 rfl (lv_at hl 3 rfl) ?_
  refine lv_iconst (v := nI 1) hx hb dL_law_441 (by decide) ?_
  refine lv_iadd hx hb dL_law_442 ?_
  refine va_sld hx hb hX hbl (Nat.not_le.mpr hbl) w.2.2.2 (l_in 1 (by decide) hi hL) dL_law_443 ?_
  refine lv_aload_n hx hb dL_law_444 rfl (lv_at hl 0 rfl) ?_
  refine lv_iload_n hx hb dL_law_445 rfl (lv_at hl 3 rfl) ?_
  refine lv_iconst (v := nI 2) hx hb dL_law_446 (by decide) ?_
  refine lv_iadd hx hb dL_law_447 ?_
  refine va_sld hx hb hX hbl (Nat.not_le.mpr hbl) w.2.2.2 (l_in 2 (by decide) hi hL) dL_law_448 ?_
  refine lv_aload_n hx hb dL_law_449 rfl (lv_at hl 0 rfl) ?_
  refine lv_iload_n hx hb dL_law_450 rfl (lv_at hl 3 rfl) ?_
  refine lv_iconst (v := nI 3) hx hb dL_law_451 (by decide) ?_
  refine lv_iadd hx hb dL_law_452 ?_
  refine va_sld hx hb hX hbl (Nat.not_le.mpr hbl) w.2.2.2 (l_in 3 (by decide) hi hL) dL_law_453 ?_
  refine lv_aload_n hx hb dL_law_454 rfl (lv_at hl 0 rfl) ?_
  refine lv_iload_n hx hb dL_law_455 rfl (lv_at hl 3 rfl) ?_
  refine lv_iconst (v := nI 4) hx hb dL_law_456 (by decide) ?_
  refine lv_iadd hx hb dL_law_457 ?_
  refine va_sld hx hb hX hbl (Nat.not_le.mpr hbl) w.2.2.2 (l_in 4 (by decide) hi hL) dL_law_458 ?_
  refine lv_aload_n hx hb dL_law_459 rfl (lv_at hl 0 rfl) ?_
  refine lv_iload_n hx hb dL_law_460 rfl (lv_at hl 3 rfl) ?_
  refine lv_iconst (v := nI 5) hx hb dL_law_461 (by decide) ?_
  refine lv_iadd hx hb dL_law_462 ?_
  refine va_sld hx hb hX hbl (Nat.not_le.mpr hbl) w.2.2.2 (l_in 5 (by decide) hi hL) dL_law_463 ?_
  refine l_callMi X w (n := 5) (As := [.int (xs (nI i + (nI 1)).toNatClampNeg), .int (xs (nI i + (nI 2)).toNatClampNeg), .int (xs (nI i + (nI 3)).toNatClampNeg), .int (xs (nI i + (nI 4)).toNatClampNeg), .int (xs (nI i + (nI 5)).toNatClampNeg)]) (rest := []) (fX8_day_met l _ _ _ _ _ n2 _ _ _ _ _ _ _ _ e2) gL_law_X8_day rfl rfl rfl (by decide +kernel) ⟨Nat.le_of_ble_eq_true rfl, Nat.le_of_ble_eq_true rfl⟩ ⟨Nat.le_refl _, Nat.le_refl _⟩ rfl hl.1 rfl (Nat.le_of_ble_eq_true rfl) dL_law_464 (fun H locs w => ?_)
  refine lv_pop hx hb dL_law_467 rfl ?_
  refine lv_goto (tgt := 1094) hx hb dL_law_468 (by decide) ?_
  exact hnext z1.2 z2.2 H locs ls hsim w hl
set_option maxRecDepth 20000 in
set_option maxHeartbeats 1000000 in
theorem lc_rounds {Sim : mSt → mSt → Prop} {p : Program} {l : Launch} {e : Env} {s : State} {m : MethodId} {below : List Frame} {meth : Method} {c : Code} {D : va_G} {y : ClassId} {yS : ClassId × ClassId} {qc adK adV qm : Nat → Nat} {h b L i : Nat} {xs : Nat → Int32} (hst : Sv_rounds Sim) (hL : L ≤ 3072) (hi : i + 6 ≤ L) (X : LX p s m #[Value.ref b] c D y yS adK adV) (hX : va_X b L xs s s.heap) (hbl : b < s.heap.size) {u v : mSt} (hsim : Sim u v) {H : Heap} {locs : List Loc} {ls : Array Slot} (w : LH s D y yS qc h qm H locs u v) (hl : lv_has ls 4 [(0, .ref b), (1, .ref (qc 0)), (2, .ref h), (3, .int (nI i))]) (hnext : ∀ (u v : mSt) (H : Heap) (locs : List Loc) (ls : Array Slot), Sim u v → LH s D y yS qc h qm H locs u v → lv_has ls 4 [(0, .ref b), (1, .ref (qc 0)), (2, .ref h), (3, .int (nI i))] → W p l e room_1 s m #[Value.ref b] below meth c H locs 600000 7302250 (lw_Z below #[Value.ref b] s) (F0 m 1094 ls [])) : W p l e room_1 s m #[Value.ref b] below meth c H locs 600000 7302250 (lw_Z below #[Value.ref b] s) (F0 m 471 ls []) := by
  have hx := X.1.1
  have hb := X.1.2.1
  obtain ⟨n1, z1, n2, z2, e1, e2, hsim⟩ := hst  u v hsim
  refine lv_aload_n hx hb dL_law_471 rfl (lv_at hl 1 rfl) ?_
  refine l_callCi X w (n := 0) (As := []) (rest := []) (fX7_rounds_met l _ _ _ _ _ n1  _ _ _ e1) gL_law_X7_rounds rfl rfl rfl (by decide +kernel) ⟨Nat.le_of_ble_eq_true rfl, Nat.le_of_ble_eq_true rfl⟩ ⟨Nat.le_refl _, Nat.le_refl _⟩ rfl hl.1 rfl (Nat.le_of_ble_eq_true rfl) dL_law_472 (fun H locs w => ?_)
  refine lv_pop hx hb dL_law_475 rfl ?_
  refine lv_aload_n hx hb dL_law_476 rfl (lv_at hl 2 rfl) ?_
  refine l_callMi X w (n := 0) (As := []) (rest := []) (fX8_rounds_met l _ _ _ _ _ n2  _ _ _ e2) gL_law_X8_rounds rfl rfl rfl (by decide +kernel) ⟨Nat.le_of_ble_eq_true rfl, Nat.le_of_ble_eq_true rfl⟩ ⟨Nat.le_refl _, Nat.le_refl _⟩ rfl hl.1 rfl (Nat.le_of_ble_eq_true rfl) dL_law_477 (fun H locs w => ?_)
  refine lv_pop hx hb dL_law_480 rfl ?_
  refine lv_goto (tgt := 1094) hx hb dL_law_481 (by decide) ?_
  exact hnext z1.2 z2.2 H locs ls hsim w hl
set_option maxRecDepth 20000 in
set_option maxHeartbeats 1000000 in
theorem lc_born {Sim : mSt → mSt → Prop} {p : Program} {l : Launch} {e : Env} {s : State} {m : MethodId} {below : List Frame} {meth : Method} {c : Code} {D : va_G} {y : ClassId} {yS : ClassId × ClassId} {qc adK adV qm : Nat → Nat} {h b L i : Nat} {xs : Nat → Int32} (hst : Sv_born Sim) (hL : L ≤ 3072) (hi : i + 6 ≤ L) (X : LX p s m #[Value.ref b] c D y yS adK adV) (hX : va_X b L xs s s.heap) (hbl : b < s.heap.size) {u v : mSt} (hsim : Sim u v) {H : Heap} {locs : List Loc} {ls : Array Slot} (w : LH s D y yS qc h qm H locs u v) (hl : lv_has ls 4 [(0, .ref b), (1, .ref (qc 0)), (2, .ref h), (3, .int (nI i))]) (hnext : ∀ (u v : mSt) (H : Heap) (locs : List Loc) (ls : Array Slot), Sim u v → LH s D y yS qc h qm H locs u v → lv_has ls 4 [(0, .ref b), (1, .ref (qc 0)), (2, .ref h), (3, .int (nI i))] → W p l e room_1 s m #[Value.ref b] below meth c H locs 600000 7302250 (lw_Z below #[Value.ref b] s) (F0 m 1094 ls [])) : W p l e room_1 s m #[Value.ref b] below meth c H locs 600000 7302250 (lw_Z below #[Value.ref b] s) (F0 m 484 ls []) := by
  have hx := X.1.1
  have hb := X.1.2.1
  obtain ⟨n1, z1, n2, z2, e1, e2, hsim⟩ := hst (xs (nI i + nI 1).toNatClampNeg) u v hsim
  refine lv_aload_n hx hb dL_law_484 rfl (lv_at hl 1 rfl) ?_
  refine lv_aload_n hx hb dL_law_485 rfl (lv_at hl 0 rfl) ?_
  refine lv_iload_n hx hb dL_law_486 rfl (lv_at hl 3 rfl) ?_
  refine lv_iconst (v := nI 1) hx hb dL_law_487 (by decide) ?_
  refine lv_iadd hx hb dL_law_488 ?_
  refine va_sld hx hb hX hbl (Nat.not_le.mpr hbl) w.2.2.2 (l_in 1 (by decide) hi hL) dL_law_489 ?_
  refine l_callCi X w (n := 1) (As := [.int (xs (nI i + (nI 1)).toNatClampNeg)]) (rest := []) (fX7_born_met l _ _ _ _ _ n1 _ _ _ _ e1) gL_law_X7_born rfl rfl rfl (by decide +kernel) ⟨Nat.le_of_ble_eq_true rfl, Nat.le_of_ble_eq_true rfl⟩ ⟨Nat.le_refl _, Nat.le_refl _⟩ rfl hl.1 rfl (Nat.le_of_ble_eq_true rfl) dL_law_490 (fun H locs w => ?_)
  refine lv_pop hx hb dL_law_493 rfl ?_
  refine lv_aload_n hx hb dL_law_494 rfl (lv_at hl 2 rfl) ?_
  refine lv_aload_n hx hb dL_law_495 rfl (lv_at hl 0 rfl) ?_
  refine lv_iload_n hx hb dL_law_496 rfl (lv_at hl 3 rfl) ?_
  refine lv_iconst (v := nI 1) hx hb dL_law_497 (by decide) ?_
  refine lv_iadd hx hb dL_law_498 ?_
  refine va_sld hx hb hX hbl (Nat.not_le.mpr hbl) w.2.2.2 (l_in 1 (by decide) hi hL) dL_law_499 ?_
  refine l_callMi X w (n := 1) (As := [.int (xs (nI i + (nI 1)).toNatClampNeg)]) (rest := []) (fX8_born_met l _ _ _ _ _ n2 _ _ _ _ e2) gL_law_X8_born rfl rfl rfl (by decide +kernel) ⟨Nat.le_of_ble_eq_true rfl, Nat.le_of_ble_eq_true rfl⟩ ⟨Nat.le_refl _, Nat.le_refl _⟩ rfl hl.1 rfl (Nat.le_of_ble_eq_true rfl) dL_law_500 (fun H locs w => ?_)
  refine lv_pop hx hb dL_law_503 rfl ?_
  refine lv_goto (tgt := 1094) hx hb dL_law_504 (by decide) ?_
  exact hnext z1.2 z2.2 H locs ls hsim w hl
set_option maxRecDepth 20000 in
set_option maxHeartbeats 1000000 in
theorem lc_ranked {Sim : mSt → mSt → Prop} {p : Program} {l : Launch} {e : Env} {s : State} {m : MethodId} {below : List Frame} {meth : Method} {c : Code} {D : va_G} {y : ClassId} {yS : ClassId × ClassId} {qc adK adV qm : Nat → Nat} {h b L i : Nat} {xs : Nat → Int32} (hst : Sv_ranked Sim) (hL : L ≤ 3072) (hi : i + 6 ≤ L) (X : LX p s m #[Value.ref b] c D y yS adK adV) (hX : va_X b L xs s s.heap) (hbl : b < s.heap.size) {u v : mSt} (hsim : Sim u v) {H : Heap} {locs : List Loc} {ls : Array Slot} (w : LH s D y yS qc h qm H locs u v) (hl : lv_has ls 4 [(0, .ref b), (1, .ref (qc 0)), (2, .ref h), (3, .int (nI i))]) (hnext : ∀ (u v : mSt) (H : Heap) (locs : List Loc) (ls : Array Slot), Sim u v → LH s D y yS qc h qm H locs u v → lv_has ls 4 [(0, .ref b), (1, .ref (qc 0)), (2, .ref h), (3, .int (nI i))] → W p l e room_1 s m #[Value.ref b] below meth c H locs 600000 7302250 (lw_Z below #[Value.ref b] s) (F0 m 1094 ls [])) : W p l e room_1 s m #[Value.ref b] below meth c H locs 600000 7302250 (lw_Z below #[Value.ref b] s) (F0 m 507 ls []) := by
  have hx := X.1.1
  have hb := X.1.2.1
  obtain ⟨n1, z1, n2, z2, e1, e2, hsim⟩ := hst (xs (nI i + nI 1).toNatClampNeg) (xs (nI i + nI 2).toNatClampNeg) u v hsim
  refine lv_aload_n hx hb dL_law_507 rfl (lv_at hl 1 rfl) ?_
  refine lv_aload_n hx hb dL_law_508 rfl (lv_at hl 0 rfl) ?_
  refine lv_iload_n hx hb dL_law_509 rfl (lv_at hl 3 rfl) ?_
  refine lv_iconst (v := nI 1) hx hb dL_law_510 (by decide) ?_
  refine lv_iadd hx hb dL_law_511 ?_
  refine va_sld hx hb hX hbl (Nat.not_le.mpr hbl) w.2.2.2 (l_in 1 (by decide) hi hL) dL_law_512 ?_
  refine lv_aload_n hx hb dL_law_513 rfl (lv_at hl 0 rfl) ?_
  refine lv_iload_n hx hb dL_law_514 rfl (lv_at hl 3 rfl) ?_
  refine lv_iconst (v := nI 2) hx hb dL_law_515 (by decide) ?_
  refine lv_iadd hx hb dL_law_516 ?_
  refine va_sld hx hb hX hbl (Nat.not_le.mpr hbl) w.2.2.2 (l_in 2 (by decide) hi hL) dL_law_517 ?_
  refine l_callCi X w (n := 2) (As := [.int (xs (nI i + (nI 1)).toNatClampNeg), .int (xs (nI i + (nI 2)).toNatClampNeg)]) (rest := []) (fX7_ranked_met l _ _ _ _ _ n1 _ _ _ _ _ e1) gL_law_X7_ranked rfl rfl rfl (by decide +kernel) ⟨Nat.le_of_ble_eq_true rfl, Nat.le_of_ble_eq_true rfl⟩ ⟨Nat.le_refl _, Nat.le_refl _⟩ rfl hl.1 rfl (Nat.le_of_ble_eq_true rfl) dL_law_518 (fun H locs w => ?_)
  refine lv_pop hx hb dL_law_521 rfl ?_
  refine lv_aload_n hx hb dL_law_522 rfl (lv_at hl 2 rfl) ?_
  refine lv_aload_n hx hb dL_law_523 rfl (lv_at hl 0 rfl) ?_
  refine lv_iload_n hx hb dL_law_524 rfl (lv_at hl 3 rfl) ?_
  refine lv_iconst (v := nI 1) hx hb dL_law_525 (by decide) ?_
  refine lv_iadd hx hb dL_law_526 ?_
  refine va_sld hx hb hX hbl (Nat.not_le.mpr hbl) w.2.2.2 (l_in 1 (by decide) hi hL) dL_law_527 ?_
  refine lv_aload_n hx hb dL_law_528 rfl (lv_at hl 0 rfl) ?_
  refine lv_iload_n hx hb dL_law_529 rfl (lv_at hl 3 rfl) ?_
  refine lv_iconst (v := nI 2) hx hb dL_law_530 (by decide) ?_
  refine lv_iadd hx hb dL_law_531 ?_
  refine va_sld hx hb hX hbl (Nat.not_le.mpr hbl) w.2.2.2 (l_in 2 (by decide) hi hL) dL_law_532 ?_
  refine l_callMi X w (n := 2) (As := [.int (xs (nI i + (nI 1)).toNatClampNeg), .int (xs (nI i + (nI 2)).toNatClampNeg)]) (rest := []) (fX8_ranked_met l _ _ _ _ _ n2 _ _ _ _ _ e2) gL_law_X8_ranked rfl rfl rfl (by decide +kernel) ⟨Nat.le_of_ble_eq_true rfl, Nat.le_of_ble_eq_true rfl⟩ ⟨Nat.le_refl _, Nat.le_refl _⟩ rfl hl.1 rfl (Nat.le_of_ble_eq_true rfl) dL_law_533 (fun H locs w => ?_)
  refine lv_pop hx hb dL_law_536 rfl ?_
  refine lv_goto (tgt := 1094) hx hb dL_law_537 (by decide) ?_
  exact hnext z1.2 z2.2 H locs ls hsim w hl
set_option maxRecDepth 20000 in
set_option maxHeartbeats 1000000 in
theorem lc_settled {Sim : mSt → mSt → Prop} {p : Program} {l : Launch} {e : Env} {s : State} {m : MethodId} {below : List Frame} {meth : Method} {c : Code} {D : va_G} {y : ClassId} {yS : ClassId × ClassId} {qc adK adV qm : Nat → Nat} {h b L i : Nat} {xs : Nat → Int32} (hst : Sv_settled Sim) (hL : L ≤ 3072) (hi : i + 6 ≤ L) (X : LX p s m #[Value.ref b] c D y yS adK adV) (hX : va_X b L xs s s.heap) (hbl : b < s.heap.size) {u v : mSt} (hsim : Sim u v) {H : Heap} {locs : List Loc} {ls : Array Slot} (w : LH s D y yS qc h qm H locs u v) (hl : lv_has ls 4 [(0, .ref b), (1, .ref (qc 0)), (2, .ref h), (3, .int (nI i))]) (hnext : ∀ (u v : mSt) (H : Heap) (locs : List Loc) (ls : Array Slot), Sim u v → LH s D y yS qc h qm H locs u v → lv_has ls 4 [(0, .ref b), (1, .ref (qc 0)), (2, .ref h), (3, .int (nI i))] → W p l e room_1 s m #[Value.ref b] below meth c H locs 600000 7302250 (lw_Z below #[Value.ref b] s) (F0 m 1094 ls [])) : W p l e room_1 s m #[Value.ref b] below meth c H locs 600000 7302250 (lw_Z below #[Value.ref b] s) (F0 m 540 ls []) := by
  have hx := X.1.1
  have hb := X.1.2.1
  obtain ⟨n1, z1, n2, z2, e1, e2, hsim⟩ := hst (xs (nI i + nI 1).toNatClampNeg) u v hsim
  refine lv_aload_n hx hb dL_law_540 rfl (lv_at hl 1 rfl) ?_
  refine lv_aload_n hx hb dL_law_541 rfl (lv_at hl 0 rfl) ?_
  refine lv_iload_n hx hb dL_law_542 rfl (lv_at hl 3 rfl) ?_
  refine lv_iconst (v := nI 1) hx hb dL_law_543 (by decide) ?_
  refine lv_iadd hx hb dL_law_544 ?_
  refine va_sld hx hb hX hbl (Nat.not_le.mpr hbl) w.2.2.2 (l_in 1 (by decide) hi hL) dL_law_545 ?_
  refine l_callCi X w (n := 1) (As := [.int (xs (nI i + (nI 1)).toNatClampNeg)]) (rest := []) (fX7_settled_met l _ _ _ _ _ n1 _ _ _ _ e1) gL_law_X7_settled rfl rfl rfl (by decide +kernel) ⟨Nat.le_of_ble_eq_true rfl, Nat.le_of_ble_eq_true rfl⟩ ⟨Nat.le_refl _, Nat.le_refl _⟩ rfl hl.1 rfl (Nat.le_of_ble_eq_true rfl) dL_law_546 (fun H locs w => ?_)
  refine lv_pop hx hb dL_law_549 rfl ?_
  refine lv_aload_n hx hb dL_law_550 rfl (lv_at hl 2 rfl) ?_
  refine lv_aload_n hx hb dL_law_551 rfl (lv_at hl 0 rfl) ?_
  refine lv_iload_n hx hb dL_law_552 rfl (lv_at hl 3 rfl) ?_
  refine lv_iconst (v := nI 1) hx hb dL_law_553 (by decide) ?_
  refine lv_iadd hx hb dL_law_554 ?_
  refine va_sld hx hb hX hbl (Nat.not_le.mpr hbl) w.2.2.2 (l_in 1 (by decide) hi hL) dL_law_555 ?_
  refine l_callMi X w (n := 1) (As := [.int (xs (nI i + (nI 1)).toNatClampNeg)]) (rest := []) (fX8_settled_met l _ _ _ _ _ n2 _ _ _ _ e2) gL_law_X8_settled rfl rfl rfl (by decide +kernel) ⟨Nat.le_of_ble_eq_true rfl, Nat.le_of_ble_eq_true rfl⟩ ⟨Nat.le_refl _, Nat.le_refl _⟩ rfl hl.1 rfl (Nat.le_of_ble_eq_true rfl) dL_law_556 (fun H locs w => ?_)
  refine lv_pop hx hb dL_law_559 rfl ?_
  refine lv_goto (tgt := 1094) hx hb dL_law_560 (by decide) ?_
  exact hnext z1.2 z2.2 H locs ls hsim w hl
set_option maxRecDepth 20000 in
set_option maxHeartbeats 1000000 in
theorem lc_demands {Sim : mSt → mSt → Prop} {p : Program} {l : Launch} {e : Env} {s : State} {m : MethodId} {below : List Frame} {meth : Method} {c : Code} {D : va_G} {y : ClassId} {yS : ClassId × ClassId} {qc adK adV qm : Nat → Nat} {h b L i : Nat} {xs : Nat → Int32} (hst : St_demands Sim) (hL : L ≤ 3072) (hi : i + 6 ≤ L) (X : LX p s m #[Value.ref b] c D y yS adK adV) (hX : va_X b L xs s s.heap) (hbl : b < s.heap.size) {u v : mSt} (hsim : Sim u v) {H : Heap} {locs : List Loc} {ls : Array Slot} (w : LH s D y yS qc h qm H locs u v) (hl : lv_has ls 4 [(0, .ref b), (1, .ref (qc 0)), (2, .ref h), (3, .int (nI i))]) (hnext : ∀ (u v : mSt) (H : Heap) (locs : List Loc) (ls : Array Slot), Sim u v → LH s D y yS qc h qm H locs u v → lv_has ls 4 [(0, .ref b), (1, .ref (qc 0)), (2, .ref h), (3, .int (nI i))] → W p l e room_1 s m #[Value.ref b] below meth c H locs 600000 7302250 (lw_Z below #[Value.ref b] s) (F0 m 1094 ls [])) : W p l e room_1 s m #[Value.ref b] below meth c H locs 600000 7302250 (lw_Z below #[Value.ref b] s) (F0 m 563 ls []) := by
  have hx := X.1.1
  have hb := X.1.2.1
  obtain ⟨n1, z1, n2, z2, e1, e2, e3, hsim⟩ := hst (xs (nI i + nI 1).toNatClampNeg) (xs (nI i + nI 2).toNatClampNeg) u v hsim
  refine lv_aload_n hx hb dL_law_563 rfl (lv_at hl 1 rfl) ?_
  refine lv_aload_n hx hb dL_law_564 rfl (lv_at hl 0 rfl) ?_
  refine lv_iload_n hx hb dL_law_565 rfl (lv_at hl 3 rfl) ?_
  refine lv_iconst (v := nI 1) hx hb dL_law_566 (by decide) ?_
  refine lv_iadd hx hb dL_law_567 ?_
  refine va_sld hx hb hX hbl (Nat.not_le.mpr hbl) w.2.2.2 (l_in 1 (by decide) hi hL) dL_law_568 ?_
  refine lv_aload_n hx hb dL_law_569 rfl (lv_at hl 0 rfl) ?_
  refine lv_iload_n hx hb dL_law_570 rfl (lv_at hl 3 rfl) ?_
  refine lv_iconst (v := nI 2) hx hb dL_law_571 (by decide) ?_
  refine lv_iadd hx hb dL_law_572 ?_
  refine va_sld hx hb hX hbl (Nat.not_le.mpr hbl) w.2.2.2 (l_in 2 (by decide) hi hL) dL_law_573 ?_
  refine l_callCi X w (n := 2) (As := [.int (xs (nI i + (nI 1)).toNatClampNeg), .int (xs (nI i + (nI 2)).toNatClampNeg)]) (rest := []) (fX7_demands_met l _ _ _ _ _ n1 _ _ _ _ _ e1) gL_law_X7_demands rfl rfl rfl (by decide +kernel) ⟨Nat.le_of_ble_eq_true rfl, Nat.le_of_ble_eq_true rfl⟩ ⟨Nat.le_refl _, Nat.le_refl _⟩ rfl hl.1 rfl (Nat.le_of_ble_eq_true rfl) dL_law_574 (fun H locs w => ?_)
  refine lv_aload_n hx hb dL_law_577 rfl (lv_at hl 2 rfl) ?_
  refine lv_aload_n hx hb dL_law_578 rfl (lv_at hl 0 rfl) ?_
  refine lv_iload_n hx hb dL_law_579 rfl (lv_at hl 3 rfl) ?_
  refine lv_iconst (v := nI 1) hx hb dL_law_580 (by decide) ?_
  refine lv_iadd hx hb dL_law_581 ?_
  refine va_sld hx hb hX hbl (Nat.not_le.mpr hbl) w.2.2.2 (l_in 1 (by decide) hi hL) dL_law_582 ?_
  refine lv_aload_n hx hb dL_law_583 rfl (lv_at hl 0 rfl) ?_
  refine lv_iload_n hx hb dL_law_584 rfl (lv_at hl 3 rfl) ?_
  refine lv_iconst (v := nI 2) hx hb dL_law_585 (by decide) ?_
  refine lv_iadd hx hb dL_law_586 ?_
  refine va_sld hx hb hX hbl (Nat.not_le.mpr hbl) w.2.2.2 (l_in 2 (by decide) hi hL) dL_law_587 ?_
  refine l_callMi X w (n := 2) (As := [.int (xs (nI i + (nI 1)).toNatClampNeg), .int (xs (nI i + (nI 2)).toNatClampNeg)]) (rest := [.int z1.1]) (fX8_demands_met l _ _ _ _ _ n2 _ _ _ _ _ e2) gL_law_X8_demands rfl rfl rfl (by decide +kernel) ⟨Nat.le_of_ble_eq_true rfl, Nat.le_of_ble_eq_true rfl⟩ ⟨Nat.le_refl _, Nat.le_refl _⟩ rfl hl.1 rfl (Nat.le_of_ble_eq_true rfl) dL_law_588 (fun H locs w => ?_)
  exact lv_icmp_eq (tgt := 1094) hx hb dL_law_591 (by decide) (fun _ => hnext z1.2 z2.2 H locs ls hsim w hl) (fun c1 => absurd e3 c1)
set_option maxRecDepth 20000 in
set_option maxHeartbeats 1000000 in
theorem lc_reading {Sim : mSt → mSt → Prop} {p : Program} {l : Launch} {e : Env} {s : State} {m : MethodId} {below : List Frame} {meth : Method} {c : Code} {D : va_G} {y : ClassId} {yS : ClassId × ClassId} {qc adK adV qm : Nat → Nat} {h b L i : Nat} {xs : Nat → Int32} (hst : Sv_reading Sim) (hL : L ≤ 3072) (hi : i + 6 ≤ L) (X : LX p s m #[Value.ref b] c D y yS adK adV) (hX : va_X b L xs s s.heap) (hbl : b < s.heap.size) {u v : mSt} (hsim : Sim u v) {H : Heap} {locs : List Loc} {ls : Array Slot} (w : LH s D y yS qc h qm H locs u v) (hl : lv_has ls 4 [(0, .ref b), (1, .ref (qc 0)), (2, .ref h), (3, .int (nI i))]) (hnext : ∀ (u v : mSt) (H : Heap) (locs : List Loc) (ls : Array Slot), Sim u v → LH s D y yS qc h qm H locs u v → lv_has ls 4 [(0, .ref b), (1, .ref (qc 0)), (2, .ref h), (3, .int (nI i))] → W p l e room_1 s m #[Value.ref b] below meth c H locs 600000 7302250 (lw_Z below #[Value.ref b] s) (F0 m 1094 ls [])) : W p l e room_1 s m #[Value.ref b] below meth c H locs 600000 7302250 (lw_Z below #[Value.ref b] s) (F0 m 596 ls []) := by
  have hx := X.1.1
  have hb := X.1.2.1
  obtain ⟨n1, z1, n2, z2, e1, e2, hsim⟩ := hst (xs (nI i + nI 1).toNatClampNeg) (xs (nI i + nI 2).toNatClampNeg) (xs (nI i + nI 3).toNatClampNeg) (xs (nI i + nI 4).toNatClampNeg) u v hsim
  refine lv_aload_n hx hb dL_law_596 rfl (lv_at hl 1 rfl) ?_
  refine lv_aload_n hx hb dL_law_597 rfl (lv_at hl 0 rfl) ?_
  refine lv_iload_n hx hb dL_law_598 rfl (lv_at hl 3 rfl) ?_
  refine lv_iconst (v := nI 1) hx hb dL_law_599 (by decide) ?_
  refine lv_iadd hx hb dL_law_600 ?_
  refine va_sld hx hb hX hbl (Nat.not_le.mpr hbl) w.2.2.2 (l_in 1 (by decide) hi hL) dL_law_601 ?_
  refine lv_aload_n hx hb dL_law_602 rfl (lv_at hl 0 rfl) ?_
  refine lv_iload_n hx hb dL_law_603 rfl (lv_at hl 3 rfl) ?_
  refine lv_iconst (v := nI 2) hx hb dL_law_604 (by decide) ?_
  refine lv_iadd hx hb dL_law_605 ?_
  refine va_sld hx hb hX hbl (Nat.not_le.mpr hbl) w.2.2.2 (l_in 2 (by decide) hi hL) dL_law_606 ?_
  refine lv_aload_n hx hb dL_law_607 rfl (lv_at hl 0 rfl) ?_
  refine lv_iload_n hx hb dL_law_608 rfl (lv_at hl 3 rfl) ?_
  refine lv_iconst (v := nI 3) hx hb dL_law_609 (by decide) ?_
  refine lv_iadd hx hb dL_law_610 ?_
  refine va_sld hx hb hX hbl (Nat.not_le.mpr hbl) w.2.2.2 (l_in 3 (by decide) hi hL) dL_law_611 ?_
  refine lv_aload_n hx hb dL_law_612 rfl (lv_at hl 0 rfl) ?_
  refine lv_iload_n hx hb dL_law_613 rfl (lv_at hl 3 rfl) ?_
  refine lv_iconst (v := nI 4) hx hb dL_law_614 (by decide) ?_
  refine lv_iadd hx hb dL_law_615 ?_
  refine va_sld hx hb hX hbl (Nat.not_le.mpr hbl) w.2.2.2 (l_in 4 (by decide) hi hL) dL_law_616 ?_
  refine l_callCi X w (n := 4) (As := [.int (xs (nI i + (nI 1)).toNatClampNeg), .int (xs (nI i + (nI 2)).toNatClampNeg), .int (xs (nI i + (nI 3)).toNatClampNeg), .int (xs (nI i + (nI 4)).toNatClampNeg)]) (rest := []) (fX7_reading_met l _ _ _ _ _ n1 _ _ _ _ _ _ _ e1) gL_law_X7_reading rfl rfl rfl (by decide +kernel) ⟨Nat.le_of_ble_eq_true rfl, Nat.le_of_ble_eq_true rfl⟩ ⟨Nat.le_refl _, Nat.le_refl _⟩ rfl hl.1 rfl (Nat.le_of_ble_eq_true rfl) dL_law_617 (fun H locs w => ?_)
  refine lv_pop hx hb dL_law_620 rfl ?_
  refine lv_aload_n hx hb dL_law_621 rfl (lv_at hl 2 rfl) ?_
  refine lv_aload_n hx hb dL_law_622 rfl (lv_at hl 0 rfl) ?_
  refine lv_iload_n hx hb dL_law_623 rfl (lv_at hl 3 rfl) ?_
  refine lv_iconst (v := nI 1) hx hb dL_law_624 (by decide) ?_
  refine lv_iadd hx hb dL_law_625 ?_
  refine va_sld hx hb hX hbl (Nat.not_le.mpr hbl) w.2.2.2 (l_in 1 (by decide) hi hL) dL_law_626 ?_
  refine lv_aload_n hx hb dL_law_627 rfl (lv_at hl 0 rfl) ?_
  refine lv_iload_n hx hb dL_law_628 rfl (lv_at hl 3 rfl) ?_
  refine lv_iconst (v := nI 2) hx hb dL_law_629 (by decide) ?_
  refine lv_iadd hx hb dL_law_630 ?_
  refine va_sld hx hb hX hbl (Nat.not_le.mpr hbl) w.2.2.2 (l_in 2 (by decide) hi hL) dL_law_631 ?_
  refine lv_aload_n hx hb dL_law_632 rfl (lv_at hl 0 rfl) ?_
  refine lv_iload_n hx hb dL_law_633 rfl (lv_at hl 3 rfl) ?_
  refine lv_iconst (v := nI 3) hx hb dL_law_634 (by decide) ?_
  refine lv_iadd hx hb dL_law_635 ?_
  refine va_sld hx hb hX hbl (Nat.not_le.mpr hbl) w.2.2.2 (l_in 3 (by decide) hi hL) dL_law_636 ?_
  refine lv_aload_n hx hb dL_law_637 rfl (lv_at hl 0 rfl) ?_
  refine lv_iload_n hx hb dL_law_638 rfl (lv_at hl 3 rfl) ?_
  refine lv_iconst (v := nI 4) hx hb dL_law_639 (by decide) ?_
  refine lv_iadd hx hb dL_law_640 ?_
  refine va_sld hx hb hX hbl (Nat.not_le.mpr hbl) w.2.2.2 (l_in 4 (by decide) hi hL) dL_law_641 ?_
  refine l_callMi X w (n := 4) (As := [.int (xs (nI i + (nI 1)).toNatClampNeg), .int (xs (nI i + (nI 2)).toNatClampNeg), .int (xs (nI i + (nI 3)).toNatClampNeg), .int (xs (nI i + (nI 4)).toNatClampNeg)]) (rest := []) (fX8_reading_met l _ _ _ _ _ n2 _ _ _ _ _ _ _ e2) gL_law_X8_reading rfl rfl rfl (by decide +kernel) ⟨Nat.le_of_ble_eq_true rfl, Nat.le_of_ble_eq_true rfl⟩ ⟨Nat.le_refl _, Nat.le_refl _⟩ rfl hl.1 rfl (Nat.le_of_ble_eq_true rfl) dL_law_642 (fun H locs w => ?_)
  refine lv_pop hx hb dL_law_645 rfl ?_
  refine lv_goto (tgt := 1094) hx hb dL_law_646 (by decide) ?_
  exact hnext z1.2 z2.2 H locs ls hsim w hl
set_option maxRecDepth 20000 in
set_option maxHeartbeats 1000000 in
theorem lc_back {Sim : mSt → mSt → Prop} {p : Program} {l : Launch} {e : Env} {s : State} {m : MethodId} {below : List Frame} {meth : Method} {c : Code} {D : va_G} {y : ClassId} {yS : ClassId × ClassId} {qc adK adV qm : Nat → Nat} {h b L i : Nat} {xs : Nat → Int32} (hst : Sv_back Sim) (hL : L ≤ 3072) (hi : i + 6 ≤ L) (X : LX p s m #[Value.ref b] c D y yS adK adV) (hX : va_X b L xs s s.heap) (hbl : b < s.heap.size) {u v : mSt} (hsim : Sim u v) {H : Heap} {locs : List Loc} {ls : Array Slot} (w : LH s D y yS qc h qm H locs u v) (hl : lv_has ls 4 [(0, .ref b), (1, .ref (qc 0)), (2, .ref h), (3, .int (nI i))]) (hnext : ∀ (u v : mSt) (H : Heap) (locs : List Loc) (ls : Array Slot), Sim u v → LH s D y yS qc h qm H locs u v → lv_has ls 4 [(0, .ref b), (1, .ref (qc 0)), (2, .ref h), (3, .int (nI i))] → W p l e room_1 s m #[Value.ref b] below meth c H locs 600000 7302250 (lw_Z below #[Value.ref b] s) (F0 m 1094 ls [])) : W p l e room_1 s m #[Value.ref b] below meth c H locs 600000 7302250 (lw_Z below #[Value.ref b] s) (F0 m 649 ls []) := by
  have hx := X.1.1
  have hb := X.1.2.1
  obtain ⟨n1, z1, n2, z2, e1, e2, hsim⟩ := hst (xs (nI i + nI 1).toNatClampNeg) u v hsim
  refine lv_aload_n hx hb dL_law_649 rfl (lv_at hl 1 rfl) ?_
  refine lv_aload_n hx hb dL_law_650 rfl (lv_at hl 0 rfl) ?_
  refine lv_iload_n hx hb dL_law_651 rfl (lv_at hl 3 rfl) ?_
  refine lv_iconst (v := nI 1) hx hb dL_law_652 (by decide) ?_
  refine lv_iadd hx hb dL_law_653 ?_
  refine va_sld hx hb hX hbl (Nat.not_le.mpr hbl) w.2.2.2 (l_in 1 (by decide) hi hL) dL_law_654 ?_
  refine l_callCi X w (n := 1) (As := [.int (xs (nI i + (nI 1)).toNatClampNeg)]) (rest := []) (fX7_back_met l _ _ _ _ _ n1 _ _ _ _ e1) gL_law_X7_back rfl rfl rfl (by decide +kernel) ⟨Nat.le_of_ble_eq_true rfl, Nat.le_of_ble_eq_true rfl⟩ ⟨Nat.le_refl _, Nat.le_refl _⟩ rfl hl.1 rfl (Nat.le_of_ble_eq_true rfl) dL_law_655 (fun H locs w => ?_)
  refine lv_pop hx hb dL_law_658 rfl ?_
  refine lv_aload_n hx hb dL_law_659 rfl (lv_at hl 2 rfl) ?_
  refine lv_aload_n hx hb dL_law_660 rfl (lv_at hl 0 rfl) ?_
  refine lv_iload_n hx hb dL_law_661 rfl (lv_at hl 3 rfl) ?_
  refine lv_iconst (v := nI 1) hx hb dL_law_662 (by decide) ?_
  refine lv_iadd hx hb dL_law_663 ?_
  refine va_sld hx hb hX hbl (Nat.not_le.mpr hbl) w.2.2.2 (l_in 1 (by decide) hi hL) dL_law_664 ?_
  refine l_callMi X w (n := 1) (As := [.int (xs (nI i + (nI 1)).toNatClampNeg)]) (rest := []) (fX8_back_met l _ _ _ _ _ n2 _ _ _ _ e2) gL_law_X8_back rfl rfl rfl (by decide +kernel) ⟨Nat.le_of_ble_eq_true rfl, Nat.le_of_ble_eq_true rfl⟩ ⟨Nat.le_refl _, Nat.le_refl _⟩ rfl hl.1 rfl (Nat.le_of_ble_eq_true rfl) dL_law_665 (fun H locs w => ?_)
  refine lv_pop hx hb dL_law_668 rfl ?_
  refine lv_goto (tgt := 1094) hx hb dL_law_669 (by decide) ?_
  exact hnext z1.2 z2.2 H locs ls hsim w hl
set_option maxRecDepth 20000 in
set_option maxHeartbeats 1000000 in
theorem lc_kinds {Sim : mSt → mSt → Prop} {p : Program} {l : Launch} {e : Env} {s : State} {m : MethodId} {below : List Frame} {meth : Method} {c : Code} {D : va_G} {y : ClassId} {yS : ClassId × ClassId} {qc adK adV qm : Nat → Nat} {h b L i : Nat} {xs : Nat → Int32} (hst : Sv_kinds Sim) (hL : L ≤ 3072) (hi : i + 6 ≤ L) (X : LX p s m #[Value.ref b] c D y yS adK adV) (hX : va_X b L xs s s.heap) (hbl : b < s.heap.size) {u v : mSt} (hsim : Sim u v) {H : Heap} {locs : List Loc} {ls : Array Slot} (w : LH s D y yS qc h qm H locs u v) (hl : lv_has ls 4 [(0, .ref b), (1, .ref (qc 0)), (2, .ref h), (3, .int (nI i))]) (hnext : ∀ (u v : mSt) (H : Heap) (locs : List Loc) (ls : Array Slot), Sim u v → LH s D y yS qc h qm H locs u v → lv_has ls 4 [(0, .ref b), (1, .ref (qc 0)), (2, .ref h), (3, .int (nI i))] → W p l e room_1 s m #[Value.ref b] below meth c H locs 600000 7302250 (lw_Z below #[Value.ref b] s) (F0 m 1094 ls [])) : W p l e room_1 s m #[Value.ref b] below meth c H locs 600000 7302250 (lw_Z below #[Value.ref b] s) (F0 m 672 ls []) := by
  have hx := X.1.1
  have hb := X.1.2.1
  obtain ⟨n1, z1, n2, z2, e1, e2, hsim⟩ := hst (xs (nI i + nI 1).toNatClampNeg) u v hsim
  refine lv_aload_n hx hb dL_law_672 rfl (lv_at hl 1 rfl) ?_
  refine lv_aload_n hx hb dL_law_673 rfl (lv_at hl 0 rfl) ?_
  refine lv_iload_n hx hb dL_law_674 rfl (lv_at hl 3 rfl) ?_
  refine lv_iconst (v := nI 1) hx hb dL_law_675 (by decide) ?_
  refine lv_iadd hx hb dL_law_676 ?_
  refine va_sld hx hb hX hbl (Nat.not_le.mpr hbl) w.2.2.2 (l_in 1 (by decide) hi hL) dL_law_677 ?_
  refine l_callCi X w (n := 1) (As := [.int (xs (nI i + (nI 1)).toNatClampNeg)]) (rest := []) (fX7_kinds_met l _ _ _ _ _ n1 _ _ _ _ e1) gL_law_X7_kinds rfl rfl rfl (by decide +kernel) ⟨Nat.le_of_ble_eq_true rfl, Nat.le_of_ble_eq_true rfl⟩ ⟨Nat.le_refl _, Nat.le_refl _⟩ rfl hl.1 rfl (Nat.le_of_ble_eq_true rfl) dL_law_678 (fun H locs w => ?_)
  refine lv_pop hx hb dL_law_681 rfl ?_
  refine lv_aload_n hx hb dL_law_682 rfl (lv_at hl 2 rfl) ?_
  refine lv_aload_n hx hb dL_law_683 rfl (lv_at hl 0 rfl) ?_
  refine lv_iload_n hx hb dL_law_684 rfl (lv_at hl 3 rfl) ?_
  refine lv_iconst (v := nI 1) hx hb dL_law_685 (by decide) ?_
  refine lv_iadd hx hb dL_law_686 ?_
  refine va_sld hx hb hX hbl (Nat.not_le.mpr hbl) w.2.2.2 (l_in 1 (by decide) hi hL) dL_law_687 ?_
  refine l_callMi X w (n := 1) (As := [.int (xs (nI i + (nI 1)).toNatClampNeg)]) (rest := []) (fX8_kinds_met l _ _ _ _ _ n2 _ _ _ _ e2) gL_law_X8_kinds rfl rfl rfl (by decide +kernel) ⟨Nat.le_of_ble_eq_true rfl, Nat.le_of_ble_eq_true rfl⟩ ⟨Nat.le_refl _, Nat.le_refl _⟩ rfl hl.1 rfl (Nat.le_of_ble_eq_true rfl) dL_law_688 (fun H locs w => ?_)
  refine lv_pop hx hb dL_law_691 rfl ?_
  refine lv_goto (tgt := 1094) hx hb dL_law_692 (by decide) ?_
  exact hnext z1.2 z2.2 H locs ls hsim w hl
set_option maxRecDepth 20000 in
set_option maxHeartbeats 1000000 in
theorem lc_forms {Sim : mSt → mSt → Prop} {p : Program} {l : Launch} {e : Env} {s : State} {m : MethodId} {below : List Frame} {meth : Method} {c : Code} {D : va_G} {y : ClassId} {yS : ClassId × ClassId} {qc adK adV qm : Nat → Nat} {h b L i : Nat} {xs : Nat → Int32} (hst : Sv_forms Sim) (hL : L ≤ 3072) (hi : i + 6 ≤ L) (X : LX p s m #[Value.ref b] c D y yS adK adV) (hX : va_X b L xs s s.heap) (hbl : b < s.heap.size) {u v : mSt} (hsim : Sim u v) {H : Heap} {locs : List Loc} {ls : Array Slot} (w : LH s D y yS qc h qm H locs u v) (hl : lv_has ls 4 [(0, .ref b), (1, .ref (qc 0)), (2, .ref h), (3, .int (nI i))]) (hnext : ∀ (u v : mSt) (H : Heap) (locs : List Loc) (ls : Array Slot), Sim u v → LH s D y yS qc h qm H locs u v → lv_has ls 4 [(0, .ref b), (1, .ref (qc 0)), (2, .ref h), (3, .int (nI i))] → W p l e room_1 s m #[Value.ref b] below meth c H locs 600000 7302250 (lw_Z below #[Value.ref b] s) (F0 m 1094 ls [])) : W p l e room_1 s m #[Value.ref b] below meth c H locs 600000 7302250 (lw_Z below #[Value.ref b] s) (F0 m 695 ls []) := by
  have hx := X.1.1
  have hb := X.1.2.1
  obtain ⟨n1, z1, n2, z2, e1, e2, hsim⟩ := hst (xs (nI i + nI 1).toNatClampNeg) u v hsim
  refine lv_aload_n hx hb dL_law_695 rfl (lv_at hl 1 rfl) ?_
  refine lv_aload_n hx hb dL_law_696 rfl (lv_at hl 0 rfl) ?_
  refine lv_iload_n hx hb dL_law_697 rfl (lv_at hl 3 rfl) ?_
  refine lv_iconst (v := nI 1) hx hb dL_law_698 (by decide) ?_
  refine lv_iadd hx hb dL_law_699 ?_
  refine va_sld hx hb hX hbl (Nat.not_le.mpr hbl) w.2.2.2 (l_in 1 (by decide) hi hL) dL_law_700 ?_
  refine l_callCi X w (n := 1) (As := [.int (xs (nI i + (nI 1)).toNatClampNeg)]) (rest := []) (fX7_forms_met l _ _ _ _ _ n1 _ _ _ _ e1) gL_law_X7_forms rfl rfl rfl (by decide +kernel) ⟨Nat.le_of_ble_eq_true rfl, Nat.le_of_ble_eq_true rfl⟩ ⟨Nat.le_refl _, Nat.le_refl _⟩ rfl hl.1 rfl (Nat.le_of_ble_eq_true rfl) dL_law_701 (fun H locs w => ?_)
  refine lv_pop hx hb dL_law_704 rfl ?_
  refine lv_aload_n hx hb dL_law_705 rfl (lv_at hl 2 rfl) ?_
  refine lv_aload_n hx hb dL_law_706 rfl (lv_at hl 0 rfl) ?_
  refine lv_iload_n hx hb dL_law_707 rfl (lv_at hl 3 rfl) ?_
  refine lv_iconst (v := nI 1) hx hb dL_law_708 (by decide) ?_
  refine lv_iadd hx hb dL_law_709 ?_
  refine va_sld hx hb hX hbl (Nat.not_le.mpr hbl) w.2.2.2 (l_in 1 (by decide) hi hL) dL_law_710 ?_
  refine l_callMi X w (n := 1) (As := [.int (xs (nI i + (nI 1)).toNatClampNeg)]) (rest := []) (fX8_forms_met l _ _ _ _ _ n2 _ _ _ _ e2) gL_law_X8_forms rfl rfl rfl (by decide +kernel) ⟨Nat.le_of_ble_eq_true rfl, Nat.le_of_ble_eq_true rfl⟩ ⟨Nat.le_refl _, Nat.le_refl _⟩ rfl hl.1 rfl (Nat.le_of_ble_eq_true rfl) dL_law_711 (fun H locs w => ?_)
  refine lv_pop hx hb dL_law_714 rfl ?_
  refine lv_goto (tgt := 1094) hx hb dL_law_715 (by decide) ?_
  exact hnext z1.2 z2.2 H locs ls hsim w hl
set_option maxRecDepth 20000 in
set_option maxHeartbeats 1000000 in
theorem lc_odds {Sim : mSt → mSt → Prop} {p : Program} {l : Launch} {e : Env} {s : State} {m : MethodId} {below : List Frame} {meth : Method} {c : Code} {D : va_G} {y : ClassId} {yS : ClassId × ClassId} {qc adK adV qm : Nat → Nat} {h b L i : Nat} {xs : Nat → Int32} (hst : Sv_odds Sim) (hL : L ≤ 3072) (hi : i + 6 ≤ L) (X : LX p s m #[Value.ref b] c D y yS adK adV) (hX : va_X b L xs s s.heap) (hbl : b < s.heap.size) {u v : mSt} (hsim : Sim u v) {H : Heap} {locs : List Loc} {ls : Array Slot} (w : LH s D y yS qc h qm H locs u v) (hl : lv_has ls 4 [(0, .ref b), (1, .ref (qc 0)), (2, .ref h), (3, .int (nI i))]) (hnext : ∀ (u v : mSt) (H : Heap) (locs : List Loc) (ls : Array Slot), Sim u v → LH s D y yS qc h qm H locs u v → lv_has ls 4 [(0, .ref b), (1, .ref (qc 0)), (2, .ref h), (3, .int (nI i))] → W p l e room_1 s m #[Value.ref b] below meth c H locs 600000 7302250 (lw_Z below #[Value.ref b] s) (F0 m 1094 ls [])) : W p l e room_1 s m #[Value.ref b] below meth c H locs 600000 7302250 (lw_Z below #[Value.ref b] s) (F0 m 718 ls []) := by
  have hx := X.1.1
  have hb := X.1.2.1
  obtain ⟨n1, z1, n2, z2, e1, e2, hsim⟩ := hst (xs (nI i + nI 1).toNatClampNeg) (xs (nI i + nI 2).toNatClampNeg) u v hsim
  refine lv_aload_n hx hb dL_law_718 rfl (lv_at hl 1 rfl) ?_
  refine lv_aload_n hx hb dL_law_719 rfl (lv_at hl 0 rfl) ?_
  refine lv_iload_n hx hb dL_law_720 rfl (lv_at hl 3 rfl) ?_
  refine lv_iconst (v := nI 1) hx hb dL_law_721 (by decide) ?_
  refine lv_iadd hx hb dL_law_722 ?_
  refine va_sld hx hb hX hbl (Nat.not_le.mpr hbl) w.2.2.2 (l_in 1 (by decide) hi hL) dL_law_723 ?_
  refine lv_aload_n hx hb dL_law_724 rfl (lv_at hl 0 rfl) ?_
  refine lv_iload_n hx hb dL_law_725 rfl (lv_at hl 3 rfl) ?_
  refine lv_iconst (v := nI 2) hx hb dL_law_726 (by decide) ?_
  refine lv_iadd hx hb dL_law_727 ?_
  refine va_sld hx hb hX hbl (Nat.not_le.mpr hbl) w.2.2.2 (l_in 2 (by decide) hi hL) dL_law_728 ?_
  refine l_callCl X w (n := 2) (As := [.int (xs (nI i + (nI 1)).toNatClampNeg), .int (xs (nI i + (nI 2)).toNatClampNeg)]) (rest := []) (fX7_odds_met l _ _ _ _ _ n1 _ _ _ _ _ e1) gL_law_X7_odds rfl rfl rfl (by decide +kernel) ⟨Nat.le_of_ble_eq_true rfl, Nat.le_of_ble_eq_true rfl⟩ ⟨Nat.le_refl _, Nat.le_refl _⟩ rfl hl.1 rfl (Nat.le_of_ble_eq_true rfl) dL_law_729 (fun H locs w => ?_)
  refine lv_pop2_2 hx hb dL_law_732 rfl ?_
  refine lv_aload_n hx hb dL_law_733 rfl (lv_at hl 2 rfl) ?_
  refine lv_aload_n hx hb dL_law_734 rfl (lv_at hl 0 rfl) ?_
  refine lv_iload_n hx hb dL_law_735 rfl (lv_at hl 3 rfl) ?_
  refine lv_iconst (v := nI 1) hx hb dL_law_736 (by decide) ?_
  refine lv_iadd hx hb dL_law_737 ?_
  refine va_sld hx hb hX hbl (Nat.not_le.mpr hbl) w.2.2.2 (l_in 1 (by decide) hi hL) dL_law_738 ?_
  refine lv_aload_n hx hb dL_law_739 rfl (lv_at hl 0 rfl) ?_
  refine lv_iload_n hx hb dL_law_740 rfl (lv_at hl 3 rfl) ?_
  refine lv_iconst (v := nI 2) hx hb dL_law_741 (by decide) ?_
  refine lv_iadd hx hb dL_law_742 ?_
  refine va_sld hx hb hX hbl (Nat.not_le.mpr hbl) w.2.2.2 (l_in 2 (by decide) hi hL) dL_law_743 ?_
  refine l_callMl X w (n := 2) (As := [.int (xs (nI i + (nI 1)).toNatClampNeg), .int (xs (nI i + (nI 2)).toNatClampNeg)]) (rest := []) (fX8_odds_met l _ _ _ _ _ n2 _ _ _ _ _ e2) gL_law_X8_odds rfl rfl rfl (by decide +kernel) ⟨Nat.le_of_ble_eq_true rfl, Nat.le_of_ble_eq_true rfl⟩ ⟨Nat.le_refl _, Nat.le_refl _⟩ rfl hl.1 rfl (Nat.le_of_ble_eq_true rfl) dL_law_744 (fun H locs w => ?_)
  refine lv_pop2_2 hx hb dL_law_747 rfl ?_
  refine lv_goto (tgt := 1094) hx hb dL_law_748 (by decide) ?_
  exact hnext z1.2 z2.2 H locs ls hsim w hl
set_option maxRecDepth 20000 in
set_option maxHeartbeats 1000000 in
theorem lc_sheet {Sim : mSt → mSt → Prop} {p : Program} {l : Launch} {e : Env} {s : State} {m : MethodId} {below : List Frame} {meth : Method} {c : Code} {D : va_G} {y : ClassId} {yS : ClassId × ClassId} {qc adK adV qm : Nat → Nat} {h b L i : Nat} {xs : Nat → Int32} (hst : Sv_sheet Sim) (hL : L ≤ 3072) (hi : i + 6 ≤ L) (X : LX p s m #[Value.ref b] c D y yS adK adV) (hX : va_X b L xs s s.heap) (hbl : b < s.heap.size) {u v : mSt} (hsim : Sim u v) {H : Heap} {locs : List Loc} {ls : Array Slot} (w : LH s D y yS qc h qm H locs u v) (hl : lv_has ls 4 [(0, .ref b), (1, .ref (qc 0)), (2, .ref h), (3, .int (nI i))]) (hnext : ∀ (u v : mSt) (H : Heap) (locs : List Loc) (ls : Array Slot), Sim u v → LH s D y yS qc h qm H locs u v → lv_has ls 4 [(0, .ref b), (1, .ref (qc 0)), (2, .ref h), (3, .int (nI i))] → W p l e room_1 s m #[Value.ref b] below meth c H locs 600000 7302250 (lw_Z below #[Value.ref b] s) (F0 m 1094 ls [])) : W p l e room_1 s m #[Value.ref b] below meth c H locs 600000 7302250 (lw_Z below #[Value.ref b] s) (F0 m 751 ls []) := by
  have hx := X.1.1
  have hb := X.1.2.1
  obtain ⟨n1, z1, n2, z2, e1, e2, hsim⟩ := hst (xs (nI i + nI 1).toNatClampNeg) (xs (nI i + nI 2).toNatClampNeg) (xs (nI i + nI 3).toNatClampNeg) u v hsim
  refine lv_aload_n hx hb dL_law_751 rfl (lv_at hl 1 rfl) ?_
  refine lv_aload_n hx hb dL_law_752 rfl (lv_at hl 0 rfl) ?_
  refine lv_iload_n hx hb dL_law_753 rfl (lv_at hl 3 rfl) ?_
  refine lv_iconst (v := nI 1) hx hb dL_law_754 (by decide) ?_
  refine lv_iadd hx hb dL_law_755 ?_
  refine va_sld hx hb hX hbl (Nat.not_le.mpr hbl) w.2.2.2 (l_in 1 (by decide) hi hL) dL_law_756 ?_
  refine lv_aload_n hx hb dL_law_757 rfl (lv_at hl 0 rfl) ?_
  refine lv_iload_n hx hb dL_law_758 rfl (lv_at hl 3 rfl) ?_
  refine lv_iconst (v := nI 2) hx hb dL_law_759 (by decide) ?_
  refine lv_iadd hx hb dL_law_760 ?_
  refine va_sld hx hb hX hbl (Nat.not_le.mpr hbl) w.2.2.2 (l_in 2 (by decide) hi hL) dL_law_761 ?_
  refine lv_aload_n hx hb dL_law_762 rfl (lv_at hl 0 rfl) ?_
  refine lv_iload_n hx hb dL_law_763 rfl (lv_at hl 3 rfl) ?_
  refine lv_iconst (v := nI 3) hx hb dL_law_764 (by decide) ?_
  refine lv_iadd hx hb dL_law_765 ?_
  refine va_sld hx hb hX hbl (Nat.not_le.mpr hbl) w.2.2.2 (l_in 3 (by decide) hi hL) dL_law_766 ?_
  refine l_callCi X w (n := 3) (As := [.int (xs (nI i + (nI 1)).toNatClampNeg), .int (xs (nI i + (nI 2)).toNatClampNeg), .int (xs (nI i + (nI 3)).toNatClampNeg)]) (rest := []) (fX7_sheet_met l _ _ _ _ _ n1 _ _ _ _ _ _ e1) gL_law_X7_sheet rfl rfl rfl (by decide +kernel) ⟨Nat.le_of_ble_eq_true rfl, Nat.le_of_ble_eq_true rfl⟩ ⟨Nat.le_refl _, Nat.le_refl _⟩ rfl hl.1 rfl (Nat.le_of_ble_eq_true rfl) dL_law_767 (fun H locs w => ?_)
  refine lv_pop hx hb dL_law_770 rfl ?_
  refine lv_aload_n hx hb dL_law_771 rfl (lv_at hl 2 rfl) ?_
  refine lv_aload_n hx hb dL_law_772 rfl (lv_at hl 0 rfl) ?_
  refine lv_iload_n hx hb dL_law_773 rfl (lv_at hl 3 rfl) ?_
  refine lv_iconst (v := nI 1) hx hb dL_law_774 (by decide) ?_
  refine lv_iadd hx hb dL_law_775 ?_
  refine va_sld hx hb hX hbl (Nat.not_le.mpr hbl) w.2.2.2 (l_in 1 (by decide) hi hL) dL_law_776 ?_
  refine lv_aload_n hx hb dL_law_777 rfl (lv_at hl 0 rfl) ?_
  refine lv_iload_n hx hb dL_law_778 rfl (lv_at hl 3 rfl) ?_
  refine lv_iconst (v := nI 2) hx hb dL_law_779 (by decide) ?_
  refine lv_iadd hx hb dL_law_780 ?_
  refine va_sld hx hb hX hbl (Nat.not_le.mpr hbl) w.2.2.2 (l_in 2 (by decide) hi hL) dL_law_781 ?_
  refine lv_aload_n hx hb dL_law_782 rfl (lv_at hl 0 rfl) ?_
  refine lv_iload_n hx hb dL_law_783 rfl (lv_at hl 3 rfl) ?_
  refine lv_iconst (v := nI 3) hx hb dL_law_784 (by decide) ?_
  refine lv_iadd hx hb dL_law_785 ?_
  refine va_sld hx hb hX hbl (Nat.not_le.mpr hbl) w.2.2.2 (l_in 3 (by decide) hi hL) dL_law_786 ?_
  refine l_callMi X w (n := 3) (As := [.int (xs (nI i + (nI 1)).toNatClampNeg), .int (xs (nI i + (nI 2)).toNatClampNeg), .int (xs (nI i + (nI 3)).toNatClampNeg)]) (rest := []) (fX8_sheet_met l _ _ _ _ _ n2 _ _ _ _ _ _ e2) gL_law_X8_sheet rfl rfl rfl (by decide +kernel) ⟨Nat.le_of_ble_eq_true rfl, Nat.le_of_ble_eq_true rfl⟩ ⟨Nat.le_refl _, Nat.le_refl _⟩ rfl hl.1 rfl (Nat.le_of_ble_eq_true rfl) dL_law_787 (fun H locs w => ?_)
  refine lv_pop hx hb dL_law_790 rfl ?_
  refine lv_goto (tgt := 1094) hx hb dL_law_791 (by decide) ?_
  exact hnext z1.2 z2.2 H locs ls hsim w hl
set_option maxRecDepth 20000 in
set_option maxHeartbeats 1000000 in
theorem lc_lose {Sim : mSt → mSt → Prop} {p : Program} {l : Launch} {e : Env} {s : State} {m : MethodId} {below : List Frame} {meth : Method} {c : Code} {D : va_G} {y : ClassId} {yS : ClassId × ClassId} {qc adK adV qm : Nat → Nat} {h b L i : Nat} {xs : Nat → Int32} (hst : Sv_lose Sim) (hL : L ≤ 3072) (hi : i + 6 ≤ L) (X : LX p s m #[Value.ref b] c D y yS adK adV) (hX : va_X b L xs s s.heap) (hbl : b < s.heap.size) {u v : mSt} (hsim : Sim u v) {H : Heap} {locs : List Loc} {ls : Array Slot} (w : LH s D y yS qc h qm H locs u v) (hl : lv_has ls 4 [(0, .ref b), (1, .ref (qc 0)), (2, .ref h), (3, .int (nI i))]) (hnext : ∀ (u v : mSt) (H : Heap) (locs : List Loc) (ls : Array Slot), Sim u v → LH s D y yS qc h qm H locs u v → lv_has ls 4 [(0, .ref b), (1, .ref (qc 0)), (2, .ref h), (3, .int (nI i))] → W p l e room_1 s m #[Value.ref b] below meth c H locs 600000 7302250 (lw_Z below #[Value.ref b] s) (F0 m 1094 ls [])) : W p l e room_1 s m #[Value.ref b] below meth c H locs 600000 7302250 (lw_Z below #[Value.ref b] s) (F0 m 794 ls []) := by
  have hx := X.1.1
  have hb := X.1.2.1
  obtain ⟨n1, z1, n2, z2, e1, e2, hsim⟩ := hst (xs (nI i + nI 1).toNatClampNeg) u v hsim
  refine lv_aload_n hx hb dL_law_794 rfl (lv_at hl 1 rfl) ?_
  refine lv_aload_n hx hb dL_law_795 rfl (lv_at hl 0 rfl) ?_
  refine lv_iload_n hx hb dL_law_796 rfl (lv_at hl 3 rfl) ?_
  refine lv_iconst (v := nI 1) hx hb dL_law_797 (by decide) ?_
  refine lv_iadd hx hb dL_law_798 ?_
  refine va_sld hx hb hX hbl (Nat.not_le.mpr hbl) w.2.2.2 (l_in 1 (by decide) hi hL) dL_law_799 ?_
  refine l_callCi X w (n := 1) (As := [.int (xs (nI i + (nI 1)).toNatClampNeg)]) (rest := []) (fX7_lose_met l _ _ _ _ _ n1 _ _ _ _ e1) gL_law_X7_lose rfl rfl rfl (by decide +kernel) ⟨Nat.le_of_ble_eq_true rfl, Nat.le_of_ble_eq_true rfl⟩ ⟨Nat.le_refl _, Nat.le_refl _⟩ rfl hl.1 rfl (Nat.le_of_ble_eq_true rfl) dL_law_800 (fun H locs w => ?_)
  refine lv_pop hx hb dL_law_803 rfl ?_
  refine lv_aload_n hx hb dL_law_804 rfl (lv_at hl 2 rfl) ?_
  refine lv_aload_n hx hb dL_law_805 rfl (lv_at hl 0 rfl) ?_
  refine lv_iload_n hx hb dL_law_806 rfl (lv_at hl 3 rfl) ?_
  refine lv_iconst (v := nI 1) hx hb dL_law_807 (by decide) ?_
  refine lv_iadd hx hb dL_law_808 ?_
  refine va_sld hx hb hX hbl (Nat.not_le.mpr hbl) w.2.2.2 (l_in 1 (by decide) hi hL) dL_law_809 ?_
  refine l_callMi X w (n := 1) (As := [.int (xs (nI i + (nI 1)).toNatClampNeg)]) (rest := []) (fX8_lose_met l _ _ _ _ _ n2 _ _ _ _ e2) gL_law_X8_lose rfl rfl rfl (by decide +kernel) ⟨Nat.le_of_ble_eq_true rfl, Nat.le_of_ble_eq_true rfl⟩ ⟨Nat.le_refl _, Nat.le_refl _⟩ rfl hl.1 rfl (Nat.le_of_ble_eq_true rfl) dL_law_810 (fun H locs w => ?_)
  refine lv_pop hx hb dL_law_813 rfl ?_
  refine lv_goto (tgt := 1094) hx hb dL_law_814 (by decide) ?_
  exact hnext z1.2 z2.2 H locs ls hsim w hl
set_option maxRecDepth 20000 in
set_option maxHeartbeats 1000000 in
theorem lc_put {Sim : mSt → mSt → Prop} {p : Program} {l : Launch} {e : Env} {s : State} {m : MethodId} {below : List Frame} {meth : Method} {c : Code} {D : va_G} {y : ClassId} {yS : ClassId × ClassId} {qc adK adV qm : Nat → Nat} {h b L i : Nat} {xs : Nat → Int32} (hst : Sv_put Sim) (hL : L ≤ 3072) (hi : i + 6 ≤ L) (X : LX p s m #[Value.ref b] c D y yS adK adV) (hX : va_X b L xs s s.heap) (hbl : b < s.heap.size) {u v : mSt} (hsim : Sim u v) {H : Heap} {locs : List Loc} {ls : Array Slot} (w : LH s D y yS qc h qm H locs u v) (hl : lv_has ls 4 [(0, .ref b), (1, .ref (qc 0)), (2, .ref h), (3, .int (nI i))]) (hnext : ∀ (u v : mSt) (H : Heap) (locs : List Loc) (ls : Array Slot), Sim u v → LH s D y yS qc h qm H locs u v → lv_has ls 4 [(0, .ref b), (1, .ref (qc 0)), (2, .ref h), (3, .int (nI i))] → W p l e room_1 s m #[Value.ref b] below meth c H locs 600000 7302250 (lw_Z below #[Value.ref b] s) (F0 m 1094 ls [])) : W p l e room_1 s m #[Value.ref b] below meth c H locs 600000 7302250 (lw_Z below #[Value.ref b] s) (F0 m 817 ls []) := by
  have hx := X.1.1
  have hb := X.1.2.1
  obtain ⟨n1, z1, n2, z2, e1, e2, hsim⟩ := hst (xs (nI i + nI 1).toNatClampNeg) (xs (nI i + nI 2).toNatClampNeg) (xs (nI i + nI 3).toNatClampNeg) u v hsim
  refine lv_aload_n hx hb dL_law_817 rfl (lv_at hl 1 rfl) ?_
  refine lv_aload_n hx hb dL_law_818 rfl (lv_at hl 0 rfl) ?_
  refine lv_iload_n hx hb dL_law_819 rfl (lv_at hl 3 rfl) ?_
  refine lv_iconst (v := nI 1) hx hb dL_law_820 (by decide) ?_
  refine lv_iadd hx hb dL_law_821 ?_
  refine va_sld hx hb hX hbl (Nat.not_le.mpr hbl) w.2.2.2 (l_in 1 (by decide) hi hL) dL_law_822 ?_
  refine lv_aload_n hx hb dL_law_823 rfl (lv_at hl 0 rfl) ?_
  refine lv_iload_n hx hb dL_law_824 rfl (lv_at hl 3 rfl) ?_
  refine lv_iconst (v := nI 2) hx hb dL_law_825 (by decide) ?_
  refine lv_iadd hx hb dL_law_826 ?_
  refine va_sld hx hb hX hbl (Nat.not_le.mpr hbl) w.2.2.2 (l_in 2 (by decide) hi hL) dL_law_827 ?_
  refine lv_aload_n hx hb dL_law_828 rfl (lv_at hl 0 rfl) ?_
  refine lv_iload_n hx hb dL_law_829 rfl (lv_at hl 3 rfl) ?_
  refine lv_iconst (v := nI 3) hx hb dL_law_830 (by decide) ?_
  refine lv_iadd hx hb dL_law_831 ?_
  refine va_sld hx hb hX hbl (Nat.not_le.mpr hbl) w.2.2.2 (l_in 3 (by decide) hi hL) dL_law_832 ?_
  refine l_callCi X w (n := 3) (As := [.int (xs (nI i + (nI 1)).toNatClampNeg), .int (xs (nI i + (nI 2)).toNatClampNeg), .int (xs (nI i + (nI 3)).toNatClampNeg)]) (rest := []) (fX7_put_met l _ _ _ _ _ n1 _ _ _ _ _ _ e1) gL_law_X7_put rfl rfl rfl (by decide +kernel) ⟨Nat.le_of_ble_eq_true rfl, Nat.le_of_ble_eq_true rfl⟩ ⟨Nat.le_refl _, Nat.le_refl _⟩ rfl hl.1 rfl (Nat.le_of_ble_eq_true rfl) dL_law_833 (fun H locs w => ?_)
  refine lv_pop hx hb dL_law_836 rfl ?_
  refine lv_aload_n hx hb dL_law_837 rfl (lv_at hl 2 rfl) ?_
  refine lv_aload_n hx hb dL_law_838 rfl (lv_at hl 0 rfl) ?_
  refine lv_iload_n hx hb dL_law_839 rfl (lv_at hl 3 rfl) ?_
  refine lv_iconst (v := nI 1) hx hb dL_law_840 (by decide) ?_
  refine lv_iadd hx hb dL_law_841 ?_
  refine va_sld hx hb hX hbl (Nat.not_le.mpr hbl) w.2.2.2 (l_in 1 (by decide) hi hL) dL_law_842 ?_
  refine lv_aload_n hx hb dL_law_843 rfl (lv_at hl 0 rfl) ?_
  refine lv_iload_n hx hb dL_law_844 rfl (lv_at hl 3 rfl) ?_
  refine lv_iconst (v := nI 2) hx hb dL_law_845 (by decide) ?_
  refine lv_iadd hx hb dL_law_846 ?_
  refine va_sld hx hb hX hbl (Nat.not_le.mpr hbl) w.2.2.2 (l_in 2 (by decide) hi hL) dL_law_847 ?_
  refine lv_aload_n hx hb dL_law_848 rfl (lv_at hl 0 rfl) ?_
  refine lv_iload_n hx hb dL_law_849 rfl (lv_at hl 3 rfl) ?_
  refine lv_iconst (v := nI 3) hx hb dL_law_850 (by decide) ?_
  refine lv_iadd hx hb dL_law_851 ?_
  refine va_sld hx hb hX hbl (Nat.not_le.mpr hbl) w.2.2.2 (l_in 3 (by decide) hi hL) dL_law_852 ?_
  refine l_callMi X w (n := 3) (As := [.int (xs (nI i + (nI 1)).toNatClampNeg), .int (xs (nI i + (nI 2)).toNatClampNeg), .int (xs (nI i + (nI 3)).toNatClampNeg)]) (rest := []) (fX8_put_met l _ _ _ _ _ n2 _ _ _ _ _ _ e2) gL_law_X8_put rfl rfl rfl (by decide +kernel) ⟨Nat.le_of_ble_eq_true rfl, Nat.le_of_ble_eq_true rfl⟩ ⟨Nat.le_refl _, Nat.le_refl _⟩ rfl hl.1 rfl (Nat.le_of_ble_eq_true rfl) dL_law_853 (fun H locs w => ?_)
  refine lv_pop hx hb dL_law_856 rfl ?_
  refine lv_goto (tgt := 1094) hx hb dL_law_857 (by decide) ?_
  exact hnext z1.2 z2.2 H locs ls hsim w hl
set_option maxRecDepth 20000 in
set_option maxHeartbeats 1000000 in
theorem lc_cell {Sim : mSt → mSt → Prop} {p : Program} {l : Launch} {e : Env} {s : State} {m : MethodId} {below : List Frame} {meth : Method} {c : Code} {D : va_G} {y : ClassId} {yS : ClassId × ClassId} {qc adK adV qm : Nat → Nat} {h b L i : Nat} {xs : Nat → Int32} (hst : Sv_cell Sim) (hL : L ≤ 3072) (hi : i + 6 ≤ L) (X : LX p s m #[Value.ref b] c D y yS adK adV) (hX : va_X b L xs s s.heap) (hbl : b < s.heap.size) {u v : mSt} (hsim : Sim u v) {H : Heap} {locs : List Loc} {ls : Array Slot} (w : LH s D y yS qc h qm H locs u v) (hl : lv_has ls 4 [(0, .ref b), (1, .ref (qc 0)), (2, .ref h), (3, .int (nI i))]) (hnext : ∀ (u v : mSt) (H : Heap) (locs : List Loc) (ls : Array Slot), Sim u v → LH s D y yS qc h qm H locs u v → lv_has ls 4 [(0, .ref b), (1, .ref (qc 0)), (2, .ref h), (3, .int (nI i))] → W p l e room_1 s m #[Value.ref b] below meth c H locs 600000 7302250 (lw_Z below #[Value.ref b] s) (F0 m 1094 ls [])) : W p l e room_1 s m #[Value.ref b] below meth c H locs 600000 7302250 (lw_Z below #[Value.ref b] s) (F0 m 860 ls []) := by
  have hx := X.1.1
  have hb := X.1.2.1
  obtain ⟨n1, z1, n2, z2, e1, e2, hsim⟩ := hst (xs (nI i + nI 1).toNatClampNeg) (xs (nI i + nI 2).toNatClampNeg) (xs (nI i + nI 3).toNatClampNeg) u v hsim
  refine lv_aload_n hx hb dL_law_860 rfl (lv_at hl 1 rfl) ?_
  refine lv_aload_n hx hb dL_law_861 rfl (lv_at hl 0 rfl) ?_
  refine lv_iload_n hx hb dL_law_862 rfl (lv_at hl 3 rfl) ?_
  refine lv_iconst (v := nI 1) hx hb dL_law_863 (by decide) ?_
  refine lv_iadd hx hb dL_law_864 ?_
  refine va_sld hx hb hX hbl (Nat.not_le.mpr hbl) w.2.2.2 (l_in 1 (by decide) hi hL) dL_law_865 ?_
  refine lv_aload_n hx hb dL_law_866 rfl (lv_at hl 0 rfl) ?_
  refine lv_iload_n hx hb dL_law_867 rfl (lv_at hl 3 rfl) ?_
  refine lv_iconst (v := nI 2) hx hb dL_law_868 (by decide) ?_
  refine lv_iadd hx hb dL_law_869 ?_
  refine va_sld hx hb hX hbl (Nat.not_le.mpr hbl) w.2.2.2 (l_in 2 (by decide) hi hL) dL_law_870 ?_
  refine lv_aload_n hx hb dL_law_871 rfl (lv_at hl 0 rfl) ?_
  refine lv_iload_n hx hb dL_law_872 rfl (lv_at hl 3 rfl) ?_
  refine lv_iconst (v := nI 3) hx hb dL_law_873 (by decide) ?_
  refine lv_iadd hx hb dL_law_874 ?_
  refine va_sld hx hb hX hbl (Nat.not_le.mpr hbl) w.2.2.2 (l_in 3 (by decide) hi hL) dL_law_875 ?_
  refine l_callCl X w (n := 3) (As := [.int (xs (nI i + (nI 1)).toNatClampNeg), .int (xs (nI i + (nI 2)).toNatClampNeg), .int (xs (nI i + (nI 3)).toNatClampNeg)]) (rest := []) (fX7_cell_met l _ _ _ _ _ n1 _ _ _ _ _ _ e1) gL_law_X7_cell rfl rfl rfl (by decide +kernel) ⟨Nat.le_of_ble_eq_true rfl, Nat.le_of_ble_eq_true rfl⟩ ⟨Nat.le_refl _, Nat.le_refl _⟩ rfl hl.1 rfl (Nat.le_of_ble_eq_true rfl) dL_law_876 (fun H locs w => ?_)
  refine lv_pop2_2 hx hb dL_law_879 rfl ?_
  refine lv_aload_n hx hb dL_law_880 rfl (lv_at hl 2 rfl) ?_
  refine lv_aload_n hx hb dL_law_881 rfl (lv_at hl 0 rfl) ?_
  refine lv_iload_n hx hb dL_law_882 rfl (lv_at hl 3 rfl) ?_
  refine lv_iconst (v := nI 1) hx hb dL_law_883 (by decide) ?_
  refine lv_iadd hx hb dL_law_884 ?_
  refine va_sld hx hb hX hbl (Nat.not_le.mpr hbl) w.2.2.2 (l_in 1 (by decide) hi hL) dL_law_885 ?_
  refine lv_aload_n hx hb dL_law_886 rfl (lv_at hl 0 rfl) ?_
  refine lv_iload_n hx hb dL_law_887 rfl (lv_at hl 3 rfl) ?_
  refine lv_iconst (v := nI 2) hx hb dL_law_888 (by decide) ?_
  refine lv_iadd hx hb dL_law_889 ?_
  refine va_sld hx hb hX hbl (Nat.not_le.mpr hbl) w.2.2.2 (l_in 2 (by decide) hi hL) dL_law_890 ?_
  refine lv_aload_n hx hb dL_law_891 rfl (lv_at hl 0 rfl) ?_
  refine lv_iload_n hx hb dL_law_892 rfl (lv_at hl 3 rfl) ?_
  refine lv_iconst (v := nI 3) hx hb dL_law_893 (by decide) ?_
  refine lv_iadd hx hb dL_law_894 ?_
  refine va_sld hx hb hX hbl (Nat.not_le.mpr hbl) w.2.2.2 (l_in 3 (by decide) hi hL) dL_law_895 ?_
  refine l_callMl X w (n := 3) (As := [.int (xs (nI i + (nI 1)).toNatClampNeg), .int (xs (nI i + (nI 2)).toNatClampNeg), .int (xs (nI i + (nI 3)).toNatClampNeg)]) (rest := []) (fX8_cell_met l _ _ _ _ _ n2 _ _ _ _ _ _ e2) gL_law_X8_cell rfl rfl rfl (by decide +kernel) ⟨Nat.le_of_ble_eq_true rfl, Nat.le_of_ble_eq_true rfl⟩ ⟨Nat.le_refl _, Nat.le_refl _⟩ rfl hl.1 rfl (Nat.le_of_ble_eq_true rfl) dL_law_896 (fun H locs w => ?_)
  refine lv_pop2_2 hx hb dL_law_899 rfl ?_
  refine lv_goto (tgt := 1094) hx hb dL_law_900 (by decide) ?_
  exact hnext z1.2 z2.2 H locs ls hsim w hl
set_option maxRecDepth 20000 in
set_option maxHeartbeats 1000000 in
theorem lc_copy {Sim : mSt → mSt → Prop} {p : Program} {l : Launch} {e : Env} {s : State} {m : MethodId} {below : List Frame} {meth : Method} {c : Code} {D : va_G} {y : ClassId} {yS : ClassId × ClassId} {qc adK adV qm : Nat → Nat} {h b L i : Nat} {xs : Nat → Int32} (hst : Sv_copy Sim) (hL : L ≤ 3072) (hi : i + 6 ≤ L) (X : LX p s m #[Value.ref b] c D y yS adK adV) (hX : va_X b L xs s s.heap) (hbl : b < s.heap.size) {u v : mSt} (hsim : Sim u v) {H : Heap} {locs : List Loc} {ls : Array Slot} (w : LH s D y yS qc h qm H locs u v) (hl : lv_has ls 4 [(0, .ref b), (1, .ref (qc 0)), (2, .ref h), (3, .int (nI i))]) (hnext : ∀ (u v : mSt) (H : Heap) (locs : List Loc) (ls : Array Slot), Sim u v → LH s D y yS qc h qm H locs u v → lv_has ls 4 [(0, .ref b), (1, .ref (qc 0)), (2, .ref h), (3, .int (nI i))] → W p l e room_1 s m #[Value.ref b] below meth c H locs 600000 7302250 (lw_Z below #[Value.ref b] s) (F0 m 1094 ls [])) : W p l e room_1 s m #[Value.ref b] below meth c H locs 600000 7302250 (lw_Z below #[Value.ref b] s) (F0 m 903 ls []) := by
  have hx := X.1.1
  have hb := X.1.2.1
  obtain ⟨n1, z1, n2, z2, e1, e2, hsim⟩ := hst (xs (nI i + nI 1).toNatClampNeg) (xs (nI i + nI 2).toNatClampNeg) (xs (nI i + nI 3).toNatClampNeg) (xs (nI i + nI 4).toNatClampNeg) (xs (nI i + nI 5).toNatClampNeg) u v hsim
  refine lv_aload_n hx hb dL_law_903 rfl (lv_at hl 1 rfl) ?_
  refine lv_aload_n hx hb dL_law_904 rfl (lv_at hl 0 rfl) ?_
  refine lv_iload_n hx hb dL_law_905 rfl (lv_at hl 3 rfl) ?_
  refine lv_iconst (v := nI 1) hx hb dL_law_906 (by decide) ?_
  refine lv_iadd hx hb dL_law_907 ?_
  refine va_sld hx hb hX hbl (Nat.not_le.mpr hbl) w.2.2.2 (l_in 1 (by decide) hi hL) dL_law_908 ?_
  refine lv_aload_n hx hb dL_law_909 rfl (lv_at hl 0 rfl) ?_
  refine lv_iload_n hx hb dL_law_910 rfl (lv_at hl 3 rfl) ?_
  refine lv_iconst (v := nI 2) hx hb dL_law_911 (by decide) ?_
  refine lv_iadd hx hb dL_law_912 ?_
  refine va_sld hx hb hX hbl (Nat.not_le.mpr hbl) w.2.2.2 (l_in 2 (by decide) hi hL) dL_law_913 ?_
  refine lv_aload_n hx hb dL_law_914 rfl (lv_at hl 0 rfl) ?_
  refine lv_iload_n hx hb dL_law_915 rfl (lv_at hl 3 rfl) ?_
  refine lv_iconst (v := nI 3) hx hb dL_law_916 (by decide) ?_
  refine lv_iadd hx hb dL_law_917 ?_
  refine va_sld hx hb hX hbl (Nat.not_le.mpr hbl) w.2.2.2 (l_in 3 (by decide) hi hL) dL_law_918 ?_
  refine lv_aload_n hx hb dL_law_919 rfl (lv_at hl 0 rfl) ?_
  refine lv_iload_n hx hb dL_law_920 rfl (lv_at hl 3 rfl) ?_
  refine lv_iconst (v := nI 4) hx hb dL_law_921 (by decide) ?_
  refine lv_iadd hx hb dL_law_922 ?_
  refine va_sld hx hb hX hbl (Nat.not_le.mpr hbl) w.2.2.2 (l_in 4 (by decide) hi hL) dL_law_923 ?_
  refine lv_aload_n hx hb dL_law_924 rfl (lv_at hl 0 rfl) ?_
  refine lv_iload_n hx hb dL_law_925 rfl (lv_at hl 3 rfl) ?_
  refine lv_iconst (v := nI 5) hx hb dL_law_926 (by decide) ?_
  refine lv_iadd hx hb dL_law_927 ?_
  refine va_sld hx hb hX hbl (Nat.not_le.mpr hbl) w.2.2.2 (l_in 5 (by decide) hi hL) dL_law_928 ?_
  refine l_callCi X w (n := 5) (As := [.int (xs (nI i + (nI 1)).toNatClampNeg), .int (xs (nI i + (nI 2)).toNatClampNeg), .int (xs (nI i + (nI 3)).toNatClampNeg), .int (xs (nI i + (nI 4)).toNatClampNeg), .int (xs (nI i + (nI 5)).toNatClampNeg)]) (rest := []) (fX7_copy_met l _ _ _ _ _ n1 _ _ _ _ _ _ _ _ e1) gL_law_X7_copy rfl rfl rfl (by decide +kernel) ⟨Nat.le_of_ble_eq_true rfl, Nat.le_of_ble_eq_true rfl⟩ ⟨Nat.le_refl _, Nat.le_refl _⟩ rfl hl.1 rfl (Nat.le_of_ble_eq_true rfl) dL_law_929 (fun H locs w => ?_)
  refine lv_pop hx hb dL_law_932 rfl ?_
  refine lv_aload_n hx hb dL_law_933 rfl (lv_at hl 2 rfl) ?_
  refine lv_aload_n hx hb dL_law_934 rfl (lv_at hl 0 rfl) ?_
  refine lv_iload_n hx hb dL_law_935 rfl (lv_at hl 3 rfl) ?_
  refine lv_iconst (v := nI 1) hx hb dL_law_936 (by decide) ?_
  refine lv_iadd hx hb dL_law_937 ?_
  refine va_sld hx hb hX hbl (Nat.not_le.mpr hbl) w.2.2.2 (l_in 1 (by decide) hi hL) dL_law_938 ?_
  refine lv_aload_n hx hb dL_law_939 rfl (lv_at hl 0 rfl) ?_
  refine lv_iload_n hx hb dL_law_940 rfl (lv_at hl 3 rfl) ?_
  refine lv_iconst (v := nI 2) hx hb dL_law_941 (by decide) ?_
  refine lv_iadd hx hb dL_law_942 ?_
  refine va_sld hx hb hX hbl (Nat.not_le.mpr hbl) w.2.2.2 (l_in 2 (by decide) hi hL) dL_law_943 ?_
  refine lv_aload_n hx hb dL_law_944 rfl (lv_at hl 0 rfl) ?_
  refine lv_iload_n hx hb dL_law_945 rfl (lv_at hl 3 rfl) ?_
  refine lv_iconst (v := nI 3) hx hb dL_law_946 (by decide) ?_
  refine lv_iadd hx hb dL_law_947 ?_
  refine va_sld hx hb hX hbl (Nat.not_le.mpr hbl) w.2.2.2 (l_in 3 (by decide) hi hL) dL_law_948 ?_
  refine lv_aload_n hx hb dL_law_949 rfl (lv_at hl 0 rfl) ?_
  refine lv_iload_n hx hb dL_law_950 rfl (lv_at hl 3 rfl) ?_
  refine lv_iconst (v := nI 4) hx hb dL_law_951 (by decide) ?_
  refine lv_iadd hx hb dL_law_952 ?_
  refine va_sld hx hb hX hbl (Nat.not_le.mpr hbl) w.2.2.2 (l_in 4 (by decide) hi hL) dL_law_953 ?_
  refine lv_aload_n hx hb dL_law_954 rfl (lv_at hl 0 rfl) ?_
  refine lv_iload_n hx hb dL_law_955 rfl (lv_at hl 3 rfl) ?_
  refine lv_iconst (v := nI 5) hx hb dL_law_956 (by decide) ?_
  refine lv_iadd hx hb dL_law_957 ?_
  refine va_sld hx hb hX hbl (Nat.not_le.mpr hbl) w.2.2.2 (l_in 5 (by decide) hi hL) dL_law_958 ?_
  refine l_callMi X w (n := 5) (As := [.int (xs (nI i + (nI 1)).toNatClampNeg), .int (xs (nI i + (nI 2)).toNatClampNeg), .int (xs (nI i + (nI 3)).toNatClampNeg), .int (xs (nI i + (nI 4)).toNatClampNeg), .int (xs (nI i + (nI 5)).toNatClampNeg)]) (rest := []) (fX8_copy_met l _ _ _ _ _ n2 _ _ _ _ _ _ _ _ e2) gL_law_X8_copy rfl rfl rfl (by decide +kernel) ⟨Nat.le_of_ble_eq_true rfl, Nat.le_of_ble_eq_true rfl⟩ ⟨Nat.le_refl _, Nat.le_refl _⟩ rfl hl.1 rfl (Nat.le_of_ble_eq_true rfl) dL_law_959 (fun H locs w => ?_)
  refine lv_pop hx hb dL_law_962 rfl ?_
  refine lv_goto (tgt := 1094) hx hb dL_law_963 (by decide) ?_
  exact hnext z1.2 z2.2 H locs ls hsim w hl
set_option maxRecDepth 20000 in
set_option maxHeartbeats 1000000 in
theorem lc_speak {Sim : mSt → mSt → Prop} {p : Program} {l : Launch} {e : Env} {s : State} {m : MethodId} {below : List Frame} {meth : Method} {c : Code} {D : va_G} {y : ClassId} {yS : ClassId × ClassId} {qc adK adV qm : Nat → Nat} {h b L i : Nat} {xs : Nat → Int32} (hst : Sv_speak Sim) (hL : L ≤ 3072) (hi : i + 6 ≤ L) (X : LX p s m #[Value.ref b] c D y yS adK adV) (hX : va_X b L xs s s.heap) (hbl : b < s.heap.size) {u v : mSt} (hsim : Sim u v) {H : Heap} {locs : List Loc} {ls : Array Slot} (w : LH s D y yS qc h qm H locs u v) (hl : lv_has ls 4 [(0, .ref b), (1, .ref (qc 0)), (2, .ref h), (3, .int (nI i))]) (hnext : ∀ (u v : mSt) (H : Heap) (locs : List Loc) (ls : Array Slot), Sim u v → LH s D y yS qc h qm H locs u v → lv_has ls 4 [(0, .ref b), (1, .ref (qc 0)), (2, .ref h), (3, .int (nI i))] → W p l e room_1 s m #[Value.ref b] below meth c H locs 600000 7302250 (lw_Z below #[Value.ref b] s) (F0 m 1094 ls [])) : W p l e room_1 s m #[Value.ref b] below meth c H locs 600000 7302250 (lw_Z below #[Value.ref b] s) (F0 m 966 ls []) := by
  have hx := X.1.1
  have hb := X.1.2.1
  obtain ⟨n1, z1, n2, z2, e1, e2, hsim⟩ := hst (xs (nI i + nI 1).toNatClampNeg) u v hsim
  refine lv_aload_n hx hb dL_law_966 rfl (lv_at hl 1 rfl) ?_
  refine lv_aload_n hx hb dL_law_967 rfl (lv_at hl 0 rfl) ?_
  refine lv_iload_n hx hb dL_law_968 rfl (lv_at hl 3 rfl) ?_
  refine lv_iconst (v := nI 1) hx hb dL_law_969 (by decide) ?_
  refine lv_iadd hx hb dL_law_970 ?_
  refine va_sld hx hb hX hbl (Nat.not_le.mpr hbl) w.2.2.2 (l_in 1 (by decide) hi hL) dL_law_971 ?_
  refine l_callCi X w (n := 1) (As := [.int (xs (nI i + (nI 1)).toNatClampNeg)]) (rest := []) (fX7_speak_met l _ _ _ _ _ n1 _ _ _ _ e1) gL_law_X7_speak rfl rfl rfl (by decide +kernel) ⟨Nat.le_of_ble_eq_true rfl, Nat.le_of_ble_eq_true rfl⟩ ⟨Nat.le_refl _, Nat.le_refl _⟩ rfl hl.1 rfl (Nat.le_of_ble_eq_true rfl) dL_law_972 (fun H locs w => ?_)
  refine lv_pop hx hb dL_law_975 rfl ?_
  refine lv_aload_n hx hb dL_law_976 rfl (lv_at hl 2 rfl) ?_
  refine lv_aload_n hx hb dL_law_977 rfl (lv_at hl 0 rfl) ?_
  refine lv_iload_n hx hb dL_law_978 rfl (lv_at hl 3 rfl) ?_
  refine lv_iconst (v := nI 1) hx hb dL_law_979 (by decide) ?_
  refine lv_iadd hx hb dL_law_980 ?_
  refine va_sld hx hb hX hbl (Nat.not_le.mpr hbl) w.2.2.2 (l_in 1 (by decide) hi hL) dL_law_981 ?_
  refine l_callMi X w (n := 1) (As := [.int (xs (nI i + (nI 1)).toNatClampNeg)]) (rest := []) (fX8_speak_met l _ _ _ _ _ n2 _ _ _ _ e2) gL_law_X8_speak rfl rfl rfl (by decide +kernel) ⟨Nat.le_of_ble_eq_true rfl, Nat.le_of_ble_eq_true rfl⟩ ⟨Nat.le_refl _, Nat.le_refl _⟩ rfl hl.1 rfl (Nat.le_of_ble_eq_true rfl) dL_law_982 (fun H locs w => ?_)
  refine lv_pop hx hb dL_law_985 rfl ?_
  refine lv_goto (tgt := 1094) hx hb dL_law_986 (by decide) ?_
  exact hnext z1.2 z2.2 H locs ls hsim w hl
set_option maxRecDepth 20000 in
set_option maxHeartbeats 1000000 in
theorem lc_quote {Sim : mSt → mSt → Prop} {p : Program} {l : Launch} {e : Env} {s : State} {m : MethodId} {below : List Frame} {meth : Method} {c : Code} {D : va_G} {y : ClassId} {yS : ClassId × ClassId} {qc adK adV qm : Nat → Nat} {h b L i : Nat} {xs : Nat → Int32} (hst : Sv_quote Sim) (hL : L ≤ 3072) (hi : i + 6 ≤ L) (X : LX p s m #[Value.ref b] c D y yS adK adV) (hX : va_X b L xs s s.heap) (hbl : b < s.heap.size) {u v : mSt} (hsim : Sim u v) {H : Heap} {locs : List Loc} {ls : Array Slot} (w : LH s D y yS qc h qm H locs u v) (hl : lv_has ls 4 [(0, .ref b), (1, .ref (qc 0)), (2, .ref h), (3, .int (nI i))]) (hnext : ∀ (u v : mSt) (H : Heap) (locs : List Loc) (ls : Array Slot), Sim u v → LH s D y yS qc h qm H locs u v → lv_has ls 4 [(0, .ref b), (1, .ref (qc 0)), (2, .ref h), (3, .int (nI i))] → W p l e room_1 s m #[Value.ref b] below meth c H locs 600000 7302250 (lw_Z below #[Value.ref b] s) (F0 m 1094 ls [])) : W p l e room_1 s m #[Value.ref b] below meth c H locs 600000 7302250 (lw_Z below #[Value.ref b] s) (F0 m 989 ls []) := by
  have hx := X.1.1
  have hb := X.1.2.1
  obtain ⟨n1, z1, n2, z2, e1, e2, hsim⟩ := hst (xs (nI i + nI 1).toNatClampNeg) u v hsim
  refine lv_aload_n hx hb dL_law_989 rfl (lv_at hl 1 rfl) ?_
  refine lv_aload_n hx hb dL_law_990 rfl (lv_at hl 0 rfl) ?_
  refine lv_iload_n hx hb dL_law_991 rfl (lv_at hl 3 rfl) ?_
  refine lv_iconst (v := nI 1) hx hb dL_law_992 (by decide) ?_
  refine lv_iadd hx hb dL_law_993 ?_
  refine va_sld hx hb hX hbl (Nat.not_le.mpr hbl) w.2.2.2 (l_in 1 (by decide) hi hL) dL_law_994 ?_
  refine l_callCi X w (n := 1) (As := [.int (xs (nI i + (nI 1)).toNatClampNeg)]) (rest := []) (fX7_quote_met l _ _ _ _ _ n1 _ _ _ _ e1) gL_law_X7_quote rfl rfl rfl (by decide +kernel) ⟨Nat.le_of_ble_eq_true rfl, Nat.le_of_ble_eq_true rfl⟩ ⟨Nat.le_refl _, Nat.le_refl _⟩ rfl hl.1 rfl (Nat.le_of_ble_eq_true rfl) dL_law_995 (fun H locs w => ?_)
  refine lv_pop hx hb dL_law_998 rfl ?_
  refine lv_aload_n hx hb dL_law_999 rfl (lv_at hl 2 rfl) ?_
  refine lv_aload_n hx hb dL_law_1000 rfl (lv_at hl 0 rfl) ?_
  refine lv_iload_n hx hb dL_law_1001 rfl (lv_at hl 3 rfl) ?_
  refine lv_iconst (v := nI 1) hx hb dL_law_1002 (by decide) ?_
  refine lv_iadd hx hb dL_law_1003 ?_
  refine va_sld hx hb hX hbl (Nat.not_le.mpr hbl) w.2.2.2 (l_in 1 (by decide) hi hL) dL_law_1004 ?_
  refine l_callMi X w (n := 1) (As := [.int (xs (nI i + (nI 1)).toNatClampNeg)]) (rest := []) (fX8_quote_met l _ _ _ _ _ n2 _ _ _ _ e2) gL_law_X8_quote rfl rfl rfl (by decide +kernel) ⟨Nat.le_of_ble_eq_true rfl, Nat.le_of_ble_eq_true rfl⟩ ⟨Nat.le_refl _, Nat.le_refl _⟩ rfl hl.1 rfl (Nat.le_of_ble_eq_true rfl) dL_law_1005 (fun H locs w => ?_)
  refine lv_pop hx hb dL_law_1008 rfl ?_
  refine lv_goto (tgt := 1094) hx hb dL_law_1009 (by decide) ?_
  exact hnext z1.2 z2.2 H locs ls hsim w hl
set_option maxRecDepth 20000 in
set_option maxHeartbeats 1000000 in
theorem lc_as {Sim : mSt → mSt → Prop} {p : Program} {l : Launch} {e : Env} {s : State} {m : MethodId} {below : List Frame} {meth : Method} {c : Code} {D : va_G} {y : ClassId} {yS : ClassId × ClassId} {qc adK adV qm : Nat → Nat} {h b L i : Nat} {xs : Nat → Int32} (hst : Sv_as Sim) (hL : L ≤ 3072) (hi : i + 6 ≤ L) (X : LX p s m #[Value.ref b] c D y yS adK adV) (hX : va_X b L xs s s.heap) (hbl : b < s.heap.size) {u v : mSt} (hsim : Sim u v) {H : Heap} {locs : List Loc} {ls : Array Slot} (w : LH s D y yS qc h qm H locs u v) (hl : lv_has ls 4 [(0, .ref b), (1, .ref (qc 0)), (2, .ref h), (3, .int (nI i))]) (hnext : ∀ (u v : mSt) (H : Heap) (locs : List Loc) (ls : Array Slot), Sim u v → LH s D y yS qc h qm H locs u v → lv_has ls 4 [(0, .ref b), (1, .ref (qc 0)), (2, .ref h), (3, .int (nI i))] → W p l e room_1 s m #[Value.ref b] below meth c H locs 600000 7302250 (lw_Z below #[Value.ref b] s) (F0 m 1094 ls [])) : W p l e room_1 s m #[Value.ref b] below meth c H locs 600000 7302250 (lw_Z below #[Value.ref b] s) (F0 m 1012 ls []) := by
  have hx := X.1.1
  have hb := X.1.2.1
  obtain ⟨n1, z1, n2, z2, e1, e2, hsim⟩ := hst (xs (nI i + nI 1).toNatClampNeg) (xs (nI i + nI 2).toNatClampNeg) u v hsim
  refine lv_aload_n hx hb dL_law_1012 rfl (lv_at hl 1 rfl) ?_
  refine lv_aload_n hx hb dL_law_1013 rfl (lv_at hl 0 rfl) ?_
  refine lv_iload_n hx hb dL_law_1014 rfl (lv_at hl 3 rfl) ?_
  refine lv_iconst (v := nI 1) hx hb dL_law_1015 (by decide) ?_
  refine lv_iadd hx hb dL_law_1016 ?_
  refine va_sld hx hb hX hbl (Nat.not_le.mpr hbl) w.2.2.2 (l_in 1 (by decide) hi hL) dL_law_1017 ?_
  refine lv_aload_n hx hb dL_law_1018 rfl (lv_at hl 0 rfl) ?_
  refine lv_iload_n hx hb dL_law_1019 rfl (lv_at hl 3 rfl) ?_
  refine lv_iconst (v := nI 2) hx hb dL_law_1020 (by decide) ?_
  refine lv_iadd hx hb dL_law_1021 ?_
  refine va_sld hx hb hX hbl (Nat.not_le.mpr hbl) w.2.2.2 (l_in 2 (by decide) hi hL) dL_law_1022 ?_
  refine l_callCi X w (n := 2) (As := [.int (xs (nI i + (nI 1)).toNatClampNeg), .int (xs (nI i + (nI 2)).toNatClampNeg)]) (rest := []) (fX7_as_met l _ _ _ _ _ n1 _ _ _ _ _ e1) gL_law_X7_as rfl rfl rfl (by decide +kernel) ⟨Nat.le_of_ble_eq_true rfl, Nat.le_of_ble_eq_true rfl⟩ ⟨Nat.le_refl _, Nat.le_refl _⟩ rfl hl.1 rfl (Nat.le_of_ble_eq_true rfl) dL_law_1023 (fun H locs w => ?_)
  refine lv_pop hx hb dL_law_1026 rfl ?_
  refine lv_aload_n hx hb dL_law_1027 rfl (lv_at hl 2 rfl) ?_
  refine lv_aload_n hx hb dL_law_1028 rfl (lv_at hl 0 rfl) ?_
  refine lv_iload_n hx hb dL_law_1029 rfl (lv_at hl 3 rfl) ?_
  refine lv_iconst (v := nI 1) hx hb dL_law_1030 (by decide) ?_
  refine lv_iadd hx hb dL_law_1031 ?_
  refine va_sld hx hb hX hbl (Nat.not_le.mpr hbl) w.2.2.2 (l_in 1 (by decide) hi hL) dL_law_1032 ?_
  refine lv_aload_n hx hb dL_law_1033 rfl (lv_at hl 0 rfl) ?_
  refine lv_iload_n hx hb dL_law_1034 rfl (lv_at hl 3 rfl) ?_
  refine lv_iconst (v := nI 2) hx hb dL_law_1035 (by decide) ?_
  refine lv_iadd hx hb dL_law_1036 ?_
  refine va_sld hx hb hX hbl (Nat.not_le.mpr hbl) w.2.2.2 (l_in 2 (by decide) hi hL) dL_law_1037 ?_
  refine l_callMi X w (n := 2) (As := [.int (xs (nI i + (nI 1)).toNatClampNeg), .int (xs (nI i + (nI 2)).toNatClampNeg)]) (rest := []) (fX8_as_met l _ _ _ _ _ n2 _ _ _ _ _ e2) gL_law_X8_as rfl rfl rfl (by decide +kernel) ⟨Nat.le_of_ble_eq_true rfl, Nat.le_of_ble_eq_true rfl⟩ ⟨Nat.le_refl _, Nat.le_refl _⟩ rfl hl.1 rfl (Nat.le_of_ble_eq_true rfl) dL_law_1038 (fun H locs w => ?_)
  refine lv_pop hx hb dL_law_1041 rfl ?_
  refine lv_goto (tgt := 1094) hx hb dL_law_1042 (by decide) ?_
  exact hnext z1.2 z2.2 H locs ls hsim w hl
set_option maxRecDepth 20000 in
set_option maxHeartbeats 1000000 in
theorem lc_trace {Sim : mSt → mSt → Prop} {p : Program} {l : Launch} {e : Env} {s : State} {m : MethodId} {below : List Frame} {meth : Method} {c : Code} {D : va_G} {y : ClassId} {yS : ClassId × ClassId} {qc adK adV qm : Nat → Nat} {h b L i : Nat} {xs : Nat → Int32} (hst : Sv_trace Sim) (hL : L ≤ 3072) (hi : i + 6 ≤ L) (X : LX p s m #[Value.ref b] c D y yS adK adV) (hX : va_X b L xs s s.heap) (hbl : b < s.heap.size) {u v : mSt} (hsim : Sim u v) {H : Heap} {locs : List Loc} {ls : Array Slot} (w : LH s D y yS qc h qm H locs u v) (hl : lv_has ls 4 [(0, .ref b), (1, .ref (qc 0)), (2, .ref h), (3, .int (nI i))]) (hnext : ∀ (u v : mSt) (H : Heap) (locs : List Loc) (ls : Array Slot), Sim u v → LH s D y yS qc h qm H locs u v → lv_has ls 4 [(0, .ref b), (1, .ref (qc 0)), (2, .ref h), (3, .int (nI i))] → W p l e room_1 s m #[Value.ref b] below meth c H locs 600000 7302250 (lw_Z below #[Value.ref b] s) (F0 m 1094 ls [])) : W p l e room_1 s m #[Value.ref b] below meth c H locs 600000 7302250 (lw_Z below #[Value.ref b] s) (F0 m 1045 ls []) := by
  have hx := X.1.1
  have hb := X.1.2.1
  obtain ⟨n1, z1, n2, z2, e1, e2, hsim⟩ := hst  u v hsim
  refine lv_aload_n hx hb dL_law_1045 rfl (lv_at hl 1 rfl) ?_
  refine l_callCi X w (n := 0) (As := []) (rest := []) (fX7_trace_met l _ _ _ _ _ n1  _ _ _ e1) gL_law_X7_trace rfl rfl rfl (by decide +kernel) ⟨Nat.le_of_ble_eq_true rfl, Nat.le_of_ble_eq_true rfl⟩ ⟨Nat.le_refl _, Nat.le_refl _⟩ rfl hl.1 rfl (Nat.le_of_ble_eq_true rfl) dL_law_1046 (fun H locs w => ?_)
  refine lv_pop hx hb dL_law_1049 rfl ?_
  refine lv_aload_n hx hb dL_law_1050 rfl (lv_at hl 2 rfl) ?_
  refine l_callMi X w (n := 0) (As := []) (rest := []) (fX8_trace_met l _ _ _ _ _ n2  _ _ _ e2) gL_law_X8_trace rfl rfl rfl (by decide +kernel) ⟨Nat.le_of_ble_eq_true rfl, Nat.le_of_ble_eq_true rfl⟩ ⟨Nat.le_refl _, Nat.le_refl _⟩ rfl hl.1 rfl (Nat.le_of_ble_eq_true rfl) dL_law_1051 (fun H locs w => ?_)
  refine lv_pop hx hb dL_law_1054 rfl ?_
  refine lv_goto (tgt := 1094) hx hb dL_law_1055 (by decide) ?_
  exact hnext z1.2 z2.2 H locs ls hsim w hl
set_option maxRecDepth 20000 in
set_option maxHeartbeats 1000000 in
theorem lc_fault {Sim : mSt → mSt → Prop} {p : Program} {l : Launch} {e : Env} {s : State} {m : MethodId} {below : List Frame} {meth : Method} {c : Code} {D : va_G} {y : ClassId} {yS : ClassId × ClassId} {qc adK adV qm : Nat → Nat} {h b L i : Nat} {xs : Nat → Int32} (hst : Sv_fault Sim) (hL : L ≤ 3072) (hi : i + 6 ≤ L) (X : LX p s m #[Value.ref b] c D y yS adK adV) (hX : va_X b L xs s s.heap) (hbl : b < s.heap.size) {u v : mSt} (hsim : Sim u v) {H : Heap} {locs : List Loc} {ls : Array Slot} (w : LH s D y yS qc h qm H locs u v) (hl : lv_has ls 4 [(0, .ref b), (1, .ref (qc 0)), (2, .ref h), (3, .int (nI i))]) (hnext : ∀ (u v : mSt) (H : Heap) (locs : List Loc) (ls : Array Slot), Sim u v → LH s D y yS qc h qm H locs u v → lv_has ls 4 [(0, .ref b), (1, .ref (qc 0)), (2, .ref h), (3, .int (nI i))] → W p l e room_1 s m #[Value.ref b] below meth c H locs 600000 7302250 (lw_Z below #[Value.ref b] s) (F0 m 1094 ls [])) : W p l e room_1 s m #[Value.ref b] below meth c H locs 600000 7302250 (lw_Z below #[Value.ref b] s) (F0 m 1058 ls []) := by
  have hx := X.1.1
  have hb := X.1.2.1
  obtain ⟨n1, z1, n2, z2, e1, e2, hsim⟩ := hst  u v hsim
  refine lv_aload_n hx hb dL_law_1058 rfl (lv_at hl 1 rfl) ?_
  refine l_callCi X w (n := 0) (As := []) (rest := []) (fX7_fault_met l _ _ _ _ _ n1  _ _ _ e1) gL_law_X7_fault rfl rfl rfl (by decide +kernel) ⟨Nat.le_of_ble_eq_true rfl, Nat.le_of_ble_eq_true rfl⟩ ⟨Nat.le_refl _, Nat.le_refl _⟩ rfl hl.1 rfl (Nat.le_of_ble_eq_true rfl) dL_law_1059 (fun H locs w => ?_)
  refine lv_pop hx hb dL_law_1062 rfl ?_
  refine lv_aload_n hx hb dL_law_1063 rfl (lv_at hl 2 rfl) ?_
  refine l_callMi X w (n := 0) (As := []) (rest := []) (fX8_fault_met l _ _ _ _ _ n2  _ _ _ e2) gL_law_X8_fault rfl rfl rfl (by decide +kernel) ⟨Nat.le_of_ble_eq_true rfl, Nat.le_of_ble_eq_true rfl⟩ ⟨Nat.le_refl _, Nat.le_refl _⟩ rfl hl.1 rfl (Nat.le_of_ble_eq_true rfl) dL_law_1064 (fun H locs w => ?_)
  refine lv_pop hx hb dL_law_1067 rfl ?_
  refine lv_goto (tgt := 1094) hx hb dL_law_1068 (by decide) ?_
  exact hnext z1.2 z2.2 H locs ls hsim w hl
set_option maxRecDepth 20000 in
set_option maxHeartbeats 1000000 in
theorem lc_many {Sim : mSt → mSt → Prop} {p : Program} {l : Launch} {e : Env} {s : State} {m : MethodId} {below : List Frame} {meth : Method} {c : Code} {D : va_G} {y : ClassId} {yS : ClassId × ClassId} {qc adK adV qm : Nat → Nat} {h b L i : Nat} {xs : Nat → Int32} (hst : Sv_many Sim) (hL : L ≤ 3072) (hi : i + 6 ≤ L) (X : LX p s m #[Value.ref b] c D y yS adK adV) (hX : va_X b L xs s s.heap) (hbl : b < s.heap.size) {u v : mSt} (hsim : Sim u v) {H : Heap} {locs : List Loc} {ls : Array Slot} (w : LH s D y yS qc h qm H locs u v) (hl : lv_has ls 4 [(0, .ref b), (1, .ref (qc 0)), (2, .ref h), (3, .int (nI i))]) (hnext : ∀ (u v : mSt) (H : Heap) (locs : List Loc) (ls : Array Slot), Sim u v → LH s D y yS qc h qm H locs u v → lv_has ls 4 [(0, .ref b), (1, .ref (qc 0)), (2, .ref h), (3, .int (nI i))] → W p l e room_1 s m #[Value.ref b] below meth c H locs 600000 7302250 (lw_Z below #[Value.ref b] s) (F0 m 1094 ls [])) : W p l e room_1 s m #[Value.ref b] below meth c H locs 600000 7302250 (lw_Z below #[Value.ref b] s) (F0 m 1071 ls []) := by
  have hx := X.1.1
  have hb := X.1.2.1
  obtain ⟨n1, z1, n2, z2, e1, e2, hsim⟩ := hst (xs (nI i + nI 1).toNatClampNeg) u v hsim
  refine lv_aload_n hx hb dL_law_1071 rfl (lv_at hl 1 rfl) ?_
  refine lv_aload_n hx hb dL_law_1072 rfl (lv_at hl 0 rfl) ?_
  refine lv_iload_n hx hb dL_law_1073 rfl (lv_at hl 3 rfl) ?_
  refine lv_iconst (v := nI 1) hx hb dL_law_1074 (by decide) ?_
  refine lv_iadd hx hb dL_law_1075 ?_
  refine va_sld hx hb hX hbl (Nat.not_le.mpr hbl) w.2.2.2 (l_in 1 (by decide) hi hL) dL_law_1076 ?_
  refine l_callCi X w (n := 1) (As := [.int (xs (nI i + (nI 1)).toNatClampNeg)]) (rest := []) (fX7_many_met l _ _ _ _ _ n1 _ _ _ _ e1) gL_law_X7_many rfl rfl rfl (by decide +kernel) ⟨Nat.le_of_ble_eq_true rfl, Nat.le_of_ble_eq_true rfl⟩ ⟨Nat.le_refl _, Nat.le_refl _⟩ rfl hl.1 rfl (Nat.le_of_ble_eq_true rfl) dL_law_1077 (fun H locs w => ?_)
  refine lv_pop hx hb dL_law_1080 rfl ?_
  refine lv_aload_n hx hb dL_law_1081 rfl (lv_at hl 2 rfl) ?_
  refine lv_aload_n hx hb dL_law_1082 rfl (lv_at hl 0 rfl) ?_
  refine lv_iload_n hx hb dL_law_1083 rfl (lv_at hl 3 rfl) ?_
  refine lv_iconst (v := nI 1) hx hb dL_law_1084 (by decide) ?_
  refine lv_iadd hx hb dL_law_1085 ?_
  refine va_sld hx hb hX hbl (Nat.not_le.mpr hbl) w.2.2.2 (l_in 1 (by decide) hi hL) dL_law_1086 ?_
  refine l_callMi X w (n := 1) (As := [.int (xs (nI i + (nI 1)).toNatClampNeg)]) (rest := []) (fX8_many_met l _ _ _ _ _ n2 _ _ _ _ e2) gL_law_X8_many rfl rfl rfl (by decide +kernel) ⟨Nat.le_of_ble_eq_true rfl, Nat.le_of_ble_eq_true rfl⟩ ⟨Nat.le_refl _, Nat.le_refl _⟩ rfl hl.1 rfl (Nat.le_of_ble_eq_true rfl) dL_law_1087 (fun H locs w => ?_)
  refine lv_pop hx hb dL_law_1090 rfl ?_
  refine lv_goto (tgt := 1094) hx hb dL_law_1091 (by decide) ?_
  exact hnext z1.2 z2.2 H locs ls hsim w hl
