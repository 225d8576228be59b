/-- COST is at most 2^27 (its bits' order is the numbers') -/
def m_cok (c : UInt32) : Prop := c.toNat ≤ 1291845632
/-- what is added to COST -/
def m_price (p : UInt32) : Prop := p = 1069547520 ∨ p = 1048576000 ∨ p = 1083703296 ∨ p = 1074266112 ∨ p = 1079194419 ∨ p = 1036831949
theorem fl_add {c p : UInt32} (h : m_cok c) (hp : m_price p) : vf_n32 (FP.fadd c p) ∧ m_cok (FP.fadd c p) := sorry
